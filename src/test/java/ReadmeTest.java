import java.io.IOException;
import java.lang.reflect.Method;
import java.lang.reflect.Modifier;
import java.nio.file.DirectoryStream;
import java.nio.file.Files;
import java.nio.file.Path;
import java.util.Set;
import java.util.TreeSet;
import java.util.regex.Matcher;
import java.util.regex.Pattern;

/** What README.md says of the calls is what they answer, and the tests that it names are those that there are. */
public final class ReadmeTest {
    private static final Pattern CALL = Pattern.compile("x\\.(\\w+)\\((.*?)\\); +// (true|false|NONE|-?\\d+)(?:: (.*))?");
    private static final Set<String> called = new TreeSet<>();

    public static void main(String[] args) throws Exception {
        String readme = Files.readString(Path.of("README.md"));
        examples(readme);
        table(readme);
        tests(readme);
        Kit.end();
    }

    private static Set<String> face() {
        Set<String> names = new TreeSet<>();
        for (Method method : TwoKings.class.getDeclaredMethods()) {
            if (Modifier.isPublic(method.getModifiers())) {
                names.add(method.getName());
            }
        }
        return names;
    }

    /** Each line of each example is called, and answers what stands behind it. */
    private static void examples(String readme) throws Exception {
        Matcher block = Pattern.compile("(?s)```java\n(.*?)```").matcher(readme);
        while (block.find()) {
            TwoKings x = null;
            for (String line : block.group(1).split("\n")) {
                if (line.equals("TwoKings x = new TwoKings();")) {
                    x = new TwoKings();
                } else if (!line.isBlank()) {
                    example(x, line);
                }
            }
        }
        Kit.due("calls that an example shows", called.toString(), face().toString());
    }

    private static void example(TwoKings x, String line) throws Exception {
        Matcher call = CALL.matcher(line);
        if (x == null || !call.matches()) {
            Kit.due("can be read: " + line, false, true);
            return;
        }
        String name = call.group(1);
        String[] with = call.group(2).isEmpty() ? new String[0] : call.group(2).split(", ");
        for (Method method : TwoKings.class.getDeclaredMethods()) {
            if (method.getName().equals(name) && Modifier.isPublic(method.getModifiers())) {
                called.add(name);
                String want = call.group(3).equals("NONE") ? "-1" : call.group(3);
                Kit.due(line, String.valueOf(method.invoke(x, numbers(method, with))), want);
            }
        }
        Kit.due("is one of the face: " + line, face().contains(name), true);
        if (name.equals("feed")) {
            dueBytes(line, with, call.group(4));
        }
    }

    private static Object[] numbers(Method method, String[] with) {
        Object[] all = new Object[method.getParameterCount()];
        for (int i = 0; i < all.length && i < with.length; i++) {
            boolean bit = method.getParameterTypes()[i] == boolean.class;
            all[i] = bit ? (Object) Boolean.valueOf(with[i]) : (Object) number(with[i]);
        }
        return all;
    }

    private static Integer number(String text) {
        return text.startsWith("0x") ? Integer.parseUnsignedInt(text.substring(2), 16) : Integer.parseInt(text);
    }

    /** What is told of a feed, a text in quotes or bytes, is what is fed, with bytes of 0 behind it. */
    private static void dueBytes(String line, String[] with, String told) {
        boolean isText = told.startsWith("\"");
        String[] bytes = isText ? told.split("\"")[1].split("") : told.split("\\D+");
        for (int i = 0; i < 20; i++) {
            int is = number(with[i / 4]) >> (24 - i % 4 * 8) & 255;
            int want = i >= bytes.length ? 0 : isText ? bytes[i].charAt(0) : Integer.parseInt(bytes[i]);
            Kit.due(line + " byte " + i, is, want);
        }
    }

    /** The table has each call of the document's face once, with its names. */
    private static void table(String readme) throws IOException {
        Set<String> want = new TreeSet<>();
        Matcher face = Pattern.compile("public \\w+ (\\w+)\\(([^)]*)\\);").matcher(Files.readString(Path.of("../shared/DOC.md")));
        while (face.find()) {
            want.add(face.group(1) + "(" + face.group(2).replaceAll("\\w+ (\\w+)", "$1") + ")");
        }
        Set<String> got = new TreeSet<>();
        Matcher row = Pattern.compile("(?m)^\\| `(\\w+\\([^)]*\\))` \\|").matcher(readme);
        while (row.find()) {
            Kit.due("once in the table: " + row.group(1), got.add(row.group(1)), true);
        }
        Kit.due("calls of the table", got.toString(), want.toString());
    }

    private static void tests(String readme) throws IOException {
        Set<String> there = new TreeSet<>();
        try (DirectoryStream<Path> files = Files.newDirectoryStream(Path.of("src/test/java"), "*.java")) {
            for (Path file : files) {
                there.add(file.getFileName().toString().replace(".java", ""));
            }
        }
        there.remove("Kit");
        Set<String> told = new TreeSet<>();
        Matcher name = Pattern.compile("`(\\w+Test)`").matcher(readme);
        while (name.find()) {
            told.add(name.group(1));
        }
        Kit.due("tests that it names", told.toString(), there.toString());
        Kit.due("how they are run", readme.contains("```sh\n.ci/run\n```"), true);
        Kit.due(".ci/run can be run", Files.isExecutable(Path.of(".ci/run")), true);
    }
}
