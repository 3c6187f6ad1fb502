import java.lang.reflect.Constructor;
import java.lang.reflect.Field;
import java.lang.reflect.Method;
import java.lang.reflect.Modifier;
import java.nio.file.Files;
import java.nio.file.Path;
import java.util.ArrayList;
import java.util.List;
import java.util.Set;
import java.util.TreeSet;
import java.util.regex.Matcher;
import java.util.regex.Pattern;

/** What of ../shared/LANGUAGE.md can be seen from outside: the face, words that must not stand, sizes. */
public final class LanguageTest {
    public static void main(String[] args) throws Exception {
        face();
        words();
        methods();
        classes(TwoKings.class);
        Kit.end();
    }

    private static void face() throws Exception {
        String doc = Files.readString(Path.of("../shared/DOC.md"));
        String code = doc.substring(doc.indexOf("```java") + 7);
        code = code.substring(0, code.indexOf("```"));
        Set<String> want = new TreeSet<>();
        Matcher matcher = Pattern.compile("public (\\w+) (\\w+)\\(([^)]*)\\);").matcher(code);
        while (matcher.find()) {
            String types = matcher.group(3).replaceAll("(\\w+) \\w+", "$1");
            want.add(matcher.group(1) + " " + matcher.group(2) + "(" + types + ")");
        }
        Set<String> got = new TreeSet<>();
        Set<String> hidden = new TreeSet<>();
        for (Method method : TwoKings.class.getDeclaredMethods()) {
            List<String> types = new ArrayList<>();
            for (Class<?> type : method.getParameterTypes()) {
                types.add(type.getSimpleName());
            }
            String name = method.getReturnType().getSimpleName() + " " + method.getName()
                    + "(" + String.join(", ", types) + ")";
            boolean open = Modifier.isPublic(method.getModifiers());
            (open ? got : hidden).add(open ? name : method.getName());
            Kit.due(name + " is public or private", open || Modifier.isPrivate(method.getModifiers()), true);
        }
        Kit.due("the face is the document's: " + got, got.equals(want), true);
        for (String name : got) {
            Kit.due("no private " + name, hidden.contains(name.replaceAll(".* (\\w+)\\(.*", "$1")), false);
        }
        for (Field field : TwoKings.class.getDeclaredFields()) {
            boolean open = field.getName().equals("NONE");
            Kit.due("field " + field.getName(), open ? Modifier.isPublic(field.getModifiers())
                    : Modifier.isPrivate(field.getModifiers()), true);
        }
        for (Constructor<?> one : TwoKings.class.getDeclaredConstructors()) {
            Kit.due("constructor", Modifier.isPublic(one.getModifiers()) && one.getParameterCount() == 0, true);
        }
        Kit.due("final", Modifier.isFinal(TwoKings.class.getModifiers()), true);
    }

    private static String bare(String source) {
        return source.replaceAll("(?s)/\\*.*?\\*/", " ").replaceAll("\"[^\"\n]*\"", "\"\"")
                .replaceAll("'[^'\n]'", "' '").replaceAll("//[^\n]*", " ");
    }

    private static void words() throws Exception {
        String source = Files.readString(Path.of("src/main/java/TwoKings.java"));
        String code = bare(source);
        String[] never = {"throw", "throws", "try", "catch", "synchronized", "assert", "package", "native", "volatile",
            "Object", "System.out", "Thread", "Random", "Exact", "protected", "var", "float", "double", "@", "->", "::"};
        for (String word : never) {
            boolean letters = Character.isLetter(word.charAt(0));
            Kit.due("no " + word, Pattern.compile((letters ? "\\b" : "") + word + (letters ? "\\b" : "")).matcher(code).find(), false);
        }
        Matcher imports = Pattern.compile("import ([^;]*);").matcher(code);
        while (imports.find()) {
            Kit.due("import " + imports.group(1), imports.group(1).equals("java.util.Arrays"), true);
        }
        for (int i = 0; i < source.length(); i++) {
            Kit.due("sign at " + i, source.charAt(i) >= 1 && source.charAt(i) <= 127, true);
        }
    }

    private static void methods() throws Exception {
        int length = 0;
        String name = "";
        for (String line : Files.readAllLines(Path.of("src/main/java/TwoKings.java"))) {
            length++;
            if (line.matches(" +(public|private|final|abstract|boolean|int|long|void|King)\\b.*\\(.*\\{")) {
                name = line.strip();
                length = 1;
                Kit.due("parameters of " + name, name.split(",").length <= 7, true);
            }
            Kit.due("length of " + name, line.isBlank() || length <= 62 || !line.startsWith("            "), true);
        }
    }

    private static void classes(Class<?> outer) {
        Class<?>[] inner = outer.getDeclaredClasses();
        Kit.due("classes", inner.length + 1 <= 12, true);
        for (Class<?> one : inner) {
            Kit.due(one + " is static and hidden", Modifier.isStatic(one.getModifiers())
                    && !Modifier.isPublic(one.getModifiers()) && !Modifier.isProtected(one.getModifiers()), true);
            int fields = 0;
            for (Field field : one.getDeclaredFields()) {
                boolean constant = Modifier.isStatic(field.getModifiers());
                fields += constant ? 0 : 1;
                Kit.due(field + " is final if static", !constant || Modifier.isFinal(field.getModifiers()), true);
            }
            Kit.due("fields of " + one, fields <= 20, true);
        }
    }
}
