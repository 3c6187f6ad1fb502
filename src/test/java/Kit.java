import java.io.IOException;
import java.nio.file.Files;
import java.nio.file.Path;
import java.util.Random;

/** What the tests share: telling wrong answers, and putting texts and bytes on the tape. */
final class Kit {
    private static int wrong = 0;
    private static int sentences = 0;
    private static String said = "";
    private static String document = "";

    private Kit() { }

    /** Begins the test of one sentence of the document: it must stand there, word for word. */
    static void says(String sentence) {
        said = "\"" + sentence + "\": ";
        sentences++;
        due("the document says so", document().contains(sentence), true);
    }

    private static String document() {
        if (document.isEmpty()) {
            try {
                document = Files.readString(Path.of("../shared/DOC.md"));
            } catch (IOException e) {
                throw new IllegalStateException("the tests run where ../shared is", e);
            }
        }
        return document;
    }

    static void due(String call, long got, long want) {
        if (got != want) {
            wrong++;
            if (wrong <= 40) {
                System.out.println(said + call + " answered " + got + ", due is " + want);
            }
        }
    }

    static void due(String call, String got, String want) {
        if (!got.equals(want)) {
            due(call + ": " + got + " instead of " + want, 0, 1);
        }
    }

    static void due(String call, boolean got, boolean want) {
        due(call, got ? 1 : 0, want ? 1 : 0);
    }

    static void end() {
        String of = sentences == 0 ? "" : " (" + sentences + " sentences)";
        System.out.println((wrong == 0 ? "all answers are as due" : wrong + " answers are not as due") + of);
        if (wrong != 0) {
            System.exit(1);
        }
    }

    /** Feeds these bytes and as many of 255 behind them as the last call of feed needs. */
    static void bytes(TwoKings x, int... bytes) {
        for (int from = 0; from < bytes.length; from += 20) {
            int[] words = new int[5];
            for (int i = 0; i < 20; i++) {
                int b = from + i < bytes.length ? bytes[from + i] : 255;
                words[i / 4] = words[i / 4] << 8 | (b & 255);
            }
            x.feed(words[0], words[1], words[2], words[3], words[4]);
        }
    }

    /** Feeds so many times twenty bytes of 0. */
    static void zeros(TwoKings x, int times) {
        for (int i = 0; i < times; i++) {
            x.feed(0, 0, 0, 0, 0);
        }
    }

    static TwoKings kings(int first, int other) {
        TwoKings x = new TwoKings();
        x.king(0, first, false);
        x.king(1, other, false);
        return x;
    }

    static void text(TwoKings x, String text) {
        int[] bytes = new int[text.length()];
        for (int i = 0; i < bytes.length; i++) {
            bytes[i] = text.charAt(i);
        }
        bytes(x, bytes);
    }

    static int law(TwoKings x, String text) {
        text(x, text);
        return x.law(text.length());
    }

    static int orders(TwoKings x, String text) {
        text(x, text);
        return x.orders(text.length());
    }

    static int treaty(TwoKings x, String text) {
        text(x, text);
        return x.treaty(text.length());
    }

    static void dueLaw(TwoKings x, String text, int want) {
        due("law " + text, law(x, text), want);
    }

    static void dueOrders(TwoKings x, String text, int want) {
        due("orders " + text, orders(x, text), want);
    }

    static void dueTreaty(TwoKings x, String text, int want) {
        due("treaty " + text, treaty(x, text), want);
    }

    static String times(String text, int n, String between) {
        StringBuilder all = new StringBuilder();
        for (int i = 0; i < n; i++) {
            all.append(i == 0 ? "" : between).append(text);
        }
        return all.toString();
    }

    static int[] someBytes(Random random, int n, int least, int most) {
        int[] bytes = new int[n];
        for (int i = 0; i < n; i++) {
            bytes[i] = least + random.nextInt(most - least + 1);
        }
        return bytes;
    }

    /** All that can be asked without changing anything, as one text. */
    static String picture(TwoKings x) {
        StringBuilder all = new StringBuilder();
        for (int what = 0; what <= 9; what++) {
            all.append(x.count(what)).append(' ');
        }
        for (int k = 0; k <= 1; k++) {
            for (int what = 0; what <= 5; what++) {
                all.append(x.kingIs(k, what)).append(' ');
            }
        }
        for (int a = 0; a <= 15; a++) {
            all.append(x.moments(a)).append(' ').append(x.act(a, 0)).append(' ').append(x.act(a, 1)).append(' ');
        }
        all.append(x.moments(100)).append(' ').append(x.moments(101));
        for (int what : new int[] {0, 1, 2, 10, 11, 20, 21, 30, 31}) {
            all.append(' ').append(x.tried(7, what));
        }
        return all.toString();
    }
}
