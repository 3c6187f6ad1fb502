import java.io.IOException;
import java.nio.file.DirectoryStream;
import java.nio.file.Files;
import java.nio.file.Path;
import java.util.regex.Matcher;
import java.util.regex.Pattern;

/** Whether each sentence of the document that names a bound or a refusal is quoted by a test of bounds. */
public final class DocumentTest {
    // Shorter ones could stand in the document by chance.
    private static final int SHORTEST = 9;

    public static void main(String[] args) throws IOException {
        String document = Files.readString(Path.of("../shared/DOC.md"));
        boolean[] told = new boolean[document.length()];
        try (DirectoryStream<Path> tests = Files.newDirectoryStream(Path.of("src/test/java"), "{*Bounds,Refused}Test.java")) {
            for (Path test : tests) {
                markQuotes(Files.readString(test), document, told);
            }
        }
        int end = document.indexOf("## Not promised");
        int at = document.indexOf("## Terms");
        while (at < end) {
            int from = at;
            while (at < end && told[at] == told[from] && (document.charAt(at) != '\n' || at == from)) {
                at++;
            }
            if (!told[from]) {
                dueNoBound(document.substring(from, at));
            }
        }
        Kit.end();
    }

    /** Marks where the texts of a test stand in the document; texts that are joined count as one. */
    private static void markQuotes(String test, String document, boolean[] told) {
        Matcher joined = Pattern.compile("\"[^\"\n]*\"(\\s*\\+\\s*\"[^\"\n]*\")*").matcher(test);
        while (joined.find()) {
            String quote = joined.group().replaceAll("\"\\s*\\+\\s*\"", "").replace("\"", "");
            int at = quote.length() < SHORTEST ? -1 : document.indexOf(quote);
            while (at >= 0) {
                java.util.Arrays.fill(told, at, at + quote.length(), true);
                at = document.indexOf(quote, at + 1);
            }
        }
    }

    private static void dueNoBound(String piece) {
        String bare = piece.replaceAll("## .*|==== \\d\\.|`\\w+ \\w+\\(.*?\\)`", "").strip();
        boolean bound = Pattern.compile("\\d|NONE|FAULT|false|empty|stays|at most|at least").matcher(bare).find();
        Kit.due("a test of its own for: " + bare, bound, false);
    }
}
