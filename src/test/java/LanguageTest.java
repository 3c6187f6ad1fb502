import java.lang.reflect.Constructor;
import java.lang.reflect.Field;
import java.lang.reflect.Method;
import java.lang.reflect.Modifier;
import java.nio.file.Files;
import java.nio.file.Path;
import java.util.ArrayList;
import java.util.List;
import java.util.Set;
import java.util.TreeSet;
import java.util.regex.Matcher;
import java.util.regex.Pattern;

/** What of ../shared/LANGUAGE.md can be seen from outside: the face, words that must not stand, sizes. */
public final class LanguageTest {
    public static void main(String[] args) throws Exception {
        face();
        words();
        library();
        loops();
        nothingIsMade();
        methods();
        classes(TwoKings.class);
        Kit.end();
    }

    private static void face() throws Exception {
        String doc = Files.readString(Path.of("../shared/DOC.md"));
        String code = doc.substring(doc.indexOf("```java") + 7);
        code = code.substring(0, code.indexOf("```"));
        Set<String> want = new TreeSet<>();
        Matcher matcher = Pattern.compile("public (\\w+) (\\w+)\\(([^)]*)\\);").matcher(code);
        while (matcher.find()) {
            String types = matcher.group(3).replaceAll("(\\w+) \\w+", "$1");
            want.add(matcher.group(1) + " " + matcher.group(2) + "(" + types + ")");
        }
        Set<String> got = new TreeSet<>();
        Set<String> hidden = new TreeSet<>();
        for (Method method : TwoKings.class.getDeclaredMethods()) {
            List<String> types = new ArrayList<>();
            for (Class<?> type : method.getParameterTypes()) {
                types.add(type.getSimpleName());
            }
            String name = method.getReturnType().getSimpleName() + " " + method.getName()
                    + "(" + String.join(", ", types) + ")";
            boolean open = Modifier.isPublic(method.getModifiers());
            (open ? got : hidden).add(open ? name : method.getName());
            Kit.due(name + " is public or private", open || Modifier.isPrivate(method.getModifiers()), true);
        }
        Kit.due("the face is the document's: " + got, got.equals(want), true);
        for (String name : got) {
            Kit.due("no private " + name, hidden.contains(name.replaceAll(".* (\\w+)\\(.*", "$1")), false);
        }
        for (Field field : TwoKings.class.getDeclaredFields()) {
            boolean open = field.getName().equals("NONE");
            Kit.due("field " + field.getName(), open ? Modifier.isPublic(field.getModifiers())
                    : Modifier.isPrivate(field.getModifiers()), true);
        }
        for (Constructor<?> one : TwoKings.class.getDeclaredConstructors()) {
            Kit.due("constructor", Modifier.isPublic(one.getModifiers()) && one.getParameterCount() == 0, true);
        }
        Kit.due("final", Modifier.isFinal(TwoKings.class.getModifiers()), true);
    }

    private static String bare(String source) {
        return source.replaceAll("(?s)/\\*.*?\\*/", " ").replaceAll("\"[^\"\n]*\"", "\"\"")
                .replaceAll("'[^'\n]'", "' '").replaceAll("//[^\n]*", " ");
    }

    private static void words() throws Exception {
        String source = Files.readString(Path.of("src/main/java/TwoKings.java"));
        String code = bare(source);
        String[] never = {"throw", "throws", "try", "catch", "synchronized", "assert", "package", "native", "volatile",
            "Object", "System.out", "Thread", "Random", "Exact", "protected", "var", "float", "double", "@", "->", "::"};
        for (String word : never) {
            boolean letters = Character.isLetter(word.charAt(0));
            Kit.due("no " + word, Pattern.compile((letters ? "\\b" : "") + word + (letters ? "\\b" : "")).matcher(code).find(), false);
        }
        Matcher imports = Pattern.compile("import ([^;]*);").matcher(code);
        while (imports.find()) {
            Kit.due("import " + imports.group(1), imports.group(1).equals("java.util.Arrays"), true);
        }
        for (int i = 0; i < source.length(); i++) {
            Kit.due("sign at " + i, source.charAt(i) >= 1 && source.charAt(i) <= 127, true);
        }
    }

    private static String code() throws Exception {
        return bare(Files.readString(Path.of("src/main/java/TwoKings.java")));
    }

    /** Rule 4: of the library only what stands there; of Integer, Long and Math it is functions alone. */
    private static void library() throws Exception {
        String allowed = "(Integer|Long|Math)\\.\\w+\\(|System\\.arraycopy\\(|Arrays\\.(copyOf|copyOfRange|fill)\\(|List\\.of\\(";
        Matcher used = Pattern.compile("\\b(Integer|Long|Math|System|Arrays|List|String|Character|Boolean)\\.\\w+\\(?")
                .matcher(code().replaceAll("import [^;]*;", ""));
        while (used.find()) {
            Kit.due("of the library: " + used.group(), used.group().matches(allowed), true);
        }
    }

    /** Rule 9: what a loop counts against is not moved away by what the loop does, or another bound stands beside it. */
    private static void loops() throws Exception {
        String code = code();
        Matcher loop = Pattern.compile("\\b(for|while) (?=\\()").matcher(code);
        int loops = 0;
        while (loop.find()) {
            int open = loop.end();
            int close = closing(code, open, '(', ')');
            String head = code.substring(open + 1, close);
            String test = loop.group(1).equals("for") ? head.split(";", -1)[1] : head;
            String step = loop.group(1).equals("for") ? head.split(";", -1)[2] : "";
            String done = step + ";" + test + ";" + code.substring(close, closing(code, code.indexOf('{', close), '{', '}'));
            Kit.due("an end of the loop that can be seen: " + head, hasEnd(test, withCalls(code, done)), true);
            loops++;
        }
        Kit.due("loops", loops > 50, true);
    }

    private static boolean hasEnd(String test, String done) {
        for (String part : test.split("&&")) {
            Matcher counted = Pattern.compile("^ *(\\w+) [<>]=? (.+?) *$").matcher(part);
            if (counted.find()) {
                boolean moves = false;
                for (String name : counted.group(2).split("\\W+")) {
                    moves |= Pattern.compile("(?<![.\\w])" + name + "(\\+\\+| [-+*/|&]?= )").matcher(done).find();
                }
                if (!moves) {
                    return true;
                }
            }
        }
        return false;
    }

    /** A piece of code, with all methods of the class that it calls, and that these call. */
    private static String withCalls(String code, String piece) {
        StringBuilder all = new StringBuilder(piece);
        Set<String> seen = new TreeSet<>();
        for (int at = 0; at < all.length();) {
            Matcher call = Pattern.compile("\\b(\\w+)\\(").matcher(all);
            if (!call.find(at)) {
                break;
            }
            at = call.end();
            if (seen.add(call.group(1))) {
                Matcher method = Pattern.compile("\\w+ " + call.group(1) + "\\([^)]*\\) \\{").matcher(code);
                while (method.find()) {
                    all.append(';').append(code, method.end(), closing(code, method.end() - 1, '{', '}'));
                }
            }
        }
        return all.toString();
    }

    private static int closing(String code, int from, char open, char close) {
        int depth = 0;
        for (int i = from; i < code.length(); i++) {
            depth += code.charAt(i) == open ? 1 : code.charAt(i) == close ? -1 : 0;
            if (depth == 0) {
                return i;
            }
        }
        return code.length() - 1;
    }

    /** All calls of a run live in one room: objects are made with the object itself, by no call. */
    private static void nothingIsMade() throws Exception {
        String code = code();
        int made = code.indexOf("public TwoKings() {");
        int end = closing(code, code.indexOf('{', made), '{', '}');
        String rest = (code.substring(0, made) + code.substring(end))
                .replaceAll("(?m)^ +private (static )?final [^;(]* = new [^;]*;$", "");
        Matcher makes = Pattern.compile("(?m)^.*\\bnew\\b.*$").matcher(rest);
        while (makes.find()) {
            Kit.due("made by a call: " + makes.group().strip(), true, false);
        }
    }

    private static void methods() throws Exception {
        int length = 0;
        String name = "";
        for (String line : Files.readAllLines(Path.of("src/main/java/TwoKings.java"))) {
            length++;
            if (line.matches(" +(public|private|final|abstract|boolean|int|long|void|King)\\b.*\\(.*\\{")) {
                name = line.strip();
                length = 1;
                Kit.due("parameters of " + name, name.split(",").length <= 7, true);
            }
            Kit.due("length of " + name, line.isBlank() || length <= 62 || !line.startsWith("            "), true);
        }
    }

    private static void classes(Class<?> outer) {
        Class<?>[] inner = outer.getDeclaredClasses();
        Kit.due("classes", inner.length + 1 <= 12, true);
        for (Class<?> one : inner) {
            Kit.due(one + " is static and hidden", Modifier.isStatic(one.getModifiers())
                    && !Modifier.isPublic(one.getModifiers()) && !Modifier.isProtected(one.getModifiers()), true);
            int fields = 0;
            for (Field field : one.getDeclaredFields()) {
                boolean constant = Modifier.isStatic(field.getModifiers());
                fields += constant ? 0 : 1;
                Kit.due(field + " is final if static", !constant || Modifier.isFinal(field.getModifiers()), true);
            }
            Kit.due("fields of " + one, fields <= 20, true);
        }
    }
}
