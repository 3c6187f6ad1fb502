import java.util.Random;

/** Promises 15 and 16: MOMENTS and ACTS, against moments that are found by going up one by one. */
public final class TreatyTest {
    public static void main(String[] args) {
        plain();
        Random random = new Random(16);
        for (int i = 0; i < 4000; i++) {
            compare(someTreaty(random));
        }
        Kit.end();
    }

    private static void plain() {
        TwoKings x = new TwoKings();
        Kit.treaty(x, "a<b");
        Kit.due("moments 102", x.moments(102), -1);
        Kit.due("moments 99", x.moments(99), -1);
        Kit.due("moments 16", x.moments(16), -1);
        Kit.due("moments -1", x.moments(-1), -1);
        Kit.due("moments 15", x.moments(15), -2);
        Kit.due("act 16", x.act(16, 0), -1);
        Kit.due("act -1", x.act(-1, 0), -1);
        Kit.due("act what 2", x.act(0, 2), -1);
        Kit.due("act what -1", x.act(0, -1), -1);
        Kit.due("act p", x.act(15, 0), -2);
        Kit.due("act a at once", x.act(0, 0), 1);
        Kit.due("act b behind", x.act(1, 1), 1);
        // Like moments alone are not at once.
        Kit.treaty(x, "a<b;c<d");
        Kit.due("act a with c", x.act(0, 0), 1);
        Kit.treaty(x, "a=b;b<c;c=d;d<e;e=a");
        Kit.due("contradicts by the last", x.moments(101), 4);
        Kit.due("then -3", x.moments(0), -3);
        Kit.due("then -3 of 100", x.moments(100), -3);
        Kit.due("then -3 of act", x.act(0, 1), -3);
        // Of an ACT that it does not name, too; what is no ACT at all stays NONE.
        Kit.due("then -3 of one not named", x.moments(15), -3);
        Kit.due("then -3 of act of one not named", x.act(15, 0), -3);
        Kit.due("then -3 of act 1 of one not named", x.act(15, 1), -3);
        Kit.due("no such ACT", x.moments(16), -1);
        Kit.due("no such ACT of act", x.act(16, 0), -1);
        Kit.due("no such what of act", x.act(15, 2), -1);
        // A TREATY in its place that does not contradict itself.
        Kit.treaty(x, "a<b");
        Kit.due("not named again", x.moments(15), -2);
        Kit.due("act not named again", x.act(15, 1), -2);
        Kit.treaty(x, Kit.times("o<p", 23, ";") + ";p<o");
        Kit.due("contradicts by the 24th", x.moments(101), 23);
        Kit.treaty(x, "p<o;o<n;n<m;m<l;l<k;k<j;j<i;i<h;h<g;g<f;f<e;e<d;d<c;c<b;b<a");
        Kit.due("sixteen moments", x.moments(100), 16);
        Kit.due("moment of a", x.moments(0), 16);
        Kit.due("all ahead of a", x.act(0, 1), 65534);
    }

    private static String someTreaty(Random random) {
        int lines = 1 + random.nextInt(random.nextBoolean() ? 24 : 8);
        int acts = 2 + random.nextInt(15);
        StringBuilder text = new StringBuilder();
        for (int i = 0; i < lines; i++) {
            int a = random.nextInt(acts);
            int b = random.nextInt(acts);
            if (a == b) {
                b = (a + 1) % acts;
            }
            boolean same = random.nextInt(5) == 0;
            if (!same && a > b && random.nextInt(8) != 0) {
                int c = a;
                a = b;
                b = c;
            }
            text.append(i == 0 ? "" : ";").append((char) ('a' + a)).append(same ? '=' : '<').append((char) ('a' + b));
        }
        return text.toString();
    }

    /** The least moments of the first lines, or null if they go up without end. */
    private static int[] moments(String text, int lines) {
        int[] at = new int[16];
        for (int round = 0; round < 400; round++) {
            boolean changed = false;
            for (int i = 0; i < lines; i++) {
                int a = text.charAt(4 * i) - 'a';
                int b = text.charAt(4 * i + 2) - 'a';
                int wantA = Math.max(1, at[a]);
                int wantB = Math.max(1, at[b]);
                if (text.charAt(4 * i + 1) == '=') {
                    wantA = wantB = Math.max(wantA, wantB);
                } else {
                    wantB = Math.max(wantB, wantA + 1);
                }
                changed |= wantA != at[a] || wantB != at[b];
                at[a] = wantA;
                at[b] = wantB;
            }
            if (!changed) {
                return at;
            }
        }
        return null;
    }

    /** Whether b comes to stand above a by these lines, with so many < between at least. */
    private static boolean reaches(String text, int lines, int a, int b, boolean before) {
        boolean[] plain = new boolean[16];
        boolean[] behind = new boolean[16];
        plain[a] = true;
        for (int round = 0; round < 40; round++) {
            for (int i = 0; i < lines; i++) {
                int c = text.charAt(4 * i) - 'a';
                int d = text.charAt(4 * i + 2) - 'a';
                if (text.charAt(4 * i + 1) == '=') {
                    plain[c] = plain[d] = plain[c] || plain[d];
                    behind[c] = behind[d] = behind[c] || behind[d];
                } else if (before) {
                    behind[d] |= plain[c] || behind[c];
                }
            }
        }
        return before ? behind[b] : plain[b];
    }

    private static void compare(String text) {
        TwoKings x = new TwoKings();
        int lines = (text.length() + 1) / 4;
        Kit.dueTreaty(x, text, lines);
        int first = -2;
        for (int n = lines; n >= 1; n--) {
            if (moments(text, n) == null) {
                first = n - 1;
            }
        }
        Kit.due(text + " moments 101", x.moments(101), first);
        int[] at = moments(text, lines);
        int last = 0;
        int named = 0;
        for (int a = 0; a < 16; a++) {
            boolean names = text.indexOf((char) ('a' + a)) >= 0;
            named |= names ? 1 << a : 0;
            last = at == null ? -3 : Math.max(last, at[a]);
            if (names) {
                Kit.due(text + " moments " + a, x.moments(a), at == null ? -3 : at[a]);
                Kit.due(text + " act 0 of " + a, x.act(a, 0), at == null ? -3 : bits(text, lines, a, false));
                Kit.due(text + " act 1 of " + a, x.act(a, 1), at == null ? -3 : bits(text, lines, a, true));
            } else {
                int due = at == null ? -3 : -2;
                Kit.due(text + " moments " + a, x.moments(a), due);
                Kit.due(text + " act 0 of " + a, x.act(a, 0), due);
                Kit.due(text + " act 1 of " + a, x.act(a, 1), due);
            }
        }
        Kit.due(text + " moments 100", x.moments(100), last);
        Kit.due(text + " count 9", x.count(9), named);
    }

    private static int bits(String text, int lines, int a, boolean before) {
        int bits = 0;
        for (int b = 0; b < 16; b++) {
            boolean is = before ? reaches(text, lines, b, a, true) : reaches(text, lines, a, b, false);
            bits |= is ? 1 << b : 0;
        }
        return bits;
    }
}
