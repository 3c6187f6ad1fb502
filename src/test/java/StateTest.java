/** Promises 1 to 4, 10 and 27 to 31: a new object, KINGS, TOLERANCE, the tape, THE SEED, KEPT and UNDONE, CHECK, count. */
public final class StateTest {
    public static void main(String[] args) {
        newObject();
        kings();
        tolerance();
        tape();
        seed();
        keptAndUndone();
        check();
        counts();
        Kit.end();
    }

    private static void newObject() {
        TwoKings x = new TwoKings();
        int[] want = {0, 1, 0, 0, 0, 0, 1, 0, 0, 0};
        for (int what = 0; what < want.length; what++) {
            Kit.due("new count " + what, x.count(what), want[what]);
        }
        for (int k = 0; k < 2; k++) {
            for (int what = 0; what < 6; what++) {
                Kit.due("new kingIs " + k + " " + what, x.kingIs(k, what), what == 3 ? 1 : 0);
            }
        }
        Kit.due("new moments 100", x.moments(100), 0);
        Kit.due("new moments 101", x.moments(101), -2);
        Kit.due("new moments 0", x.moments(0), -2);
        Kit.due("new act", x.act(15, 1), -2);
        Kit.due("new undo", x.undo(), false);
        Kit.due("NONE", TwoKings.NONE, -1);
        // Without a LAW a BREATH goes by, numbers are drawn, nobody moves.
        x.king(0, 1, false);
        Kit.due("lawless breaths", x.breaths(3), 3);
        Kit.due("lawless steps", x.kingIs(0, 0), 1);
    }

    private static void kings() {
        TwoKings x = new TwoKings();
        Kit.due("king 999", x.king(0, 999, true), true);
        Kit.due("king is 999", x.kingIs(0, 0), 999);
        Kit.due("king limps", x.kingIs(0, 4), 1);
        Kit.due("king 1 is untouched", x.kingIs(1, 4), 0);
        Kit.due("king 1000", x.king(0, 1000, false), false);
        Kit.due("king -1", x.king(0, -1, false), false);
        Kit.due("king of 2", x.king(2, 5, false), false);
        Kit.due("king of -1", x.king(-1, 5, false), false);
        Kit.due("king min", x.king(0, Integer.MIN_VALUE, false), false);
        Kit.due("refused king stays", x.kingIs(0, 0), 999);
        Kit.due("refused king limps still", x.kingIs(0, 4), 1);
        x.king(1, 0, false);
        Kit.law(x, "x(k=0);d40(k=0);h(k=0)");
        Kit.due("breath", x.breaths(2), 1);
        int[] before = {999, 40, 999 + 40 + 1, 0, 1, 1};
        for (int what = 0; what < 6; what++) {
            Kit.due("used king " + what, x.kingIs(0, what), before[what]);
        }
        Kit.due("king again", x.king(0, 0, false), true);
        int[] after = {0, 0, 0, 1, 0, 0};
        for (int what = 0; what < 6; what++) {
            Kit.due("new king " + what, x.kingIs(0, what), after[what]);
        }
        Kit.due("the breath stays", x.count(0), 1);
        Kit.due("kingIs 6", x.kingIs(0, 6), -1);
        Kit.due("kingIs -1", x.kingIs(0, -1), -1);
        Kit.due("kingIs of 2", x.kingIs(2, 0), -1);
        Kit.due("kingIs of -1", x.kingIs(-1, 0), -1);
    }

    private static void tolerance() {
        TwoKings x = new TwoKings();
        Kit.due("tolerance 99 90", x.tolerance(99, 90), true);
        Kit.due("tolerance 100", x.tolerance(100, 0), false);
        Kit.due("tolerance 91", x.tolerance(0, 91), false);
        Kit.due("tolerance -1", x.tolerance(-1, 0), false);
        Kit.due("tolerance 0 -1", x.tolerance(0, -1), false);
        Kit.due("tolerance of steps", x.count(7), 99);
        Kit.due("tolerance of degrees", x.count(8), 90);
    }

    private static void tape() {
        TwoKings x = new TwoKings();
        for (int i = 1; i <= 13; i++) {
            Kit.due("feed " + i, x.feed(0x30683b30, 0x683b3068, 0x3b30683b, 0x30683b30, 0x683b3068), 20 * i);
        }
        Kit.due("feed above 260", x.feed(0, 0, 0, 0, 0), -1);
        Kit.due("tape is full", x.count(5), 260);
        Kit.due("law above 240", x.law(241), -1);
        Kit.due("orders above 120", x.orders(121), -1);
        Kit.due("treaty above 120", x.treaty(121), -1);
        Kit.due("law of 0", x.law(0), -1);
        Kit.due("orders of -1", x.orders(-1), -1);
        Kit.due("treaty of 0", x.treaty(0), -1);
        Kit.due("tape stays", x.count(5), 260);
        Kit.due("orders use it", x.orders(20), 7);
        Kit.due("tape is empty", x.count(5), 0);
        Kit.due("law of an empty tape", x.law(1), -1);
        Kit.due("feed anew", x.feed(0x80ff0001, -1, 0, 1, 2), 20);
        Kit.due("law above the tape", x.law(21), -1);
        Kit.due("orders above the tape", x.orders(21), -1);
        Kit.due("treaty above the tape", x.treaty(21), -1);
        Kit.due("tape of 20 stays", x.count(5), 20);
        // The highest byte of an int comes first.
        Kit.due("tent of 128, 255", x.tent(2, 1), 127);
        Kit.due("tent used it", x.count(5), 0);
    }

    private static void seed() {
        TwoKings x = new TwoKings();
        Kit.due("seed 65535", x.seed(65535), true);
        Kit.due("X", x.count(6), 65535);
        Kit.due("seed 65536", x.seed(65536), false);
        Kit.due("seed -1", x.seed(-1), false);
        Kit.due("X stays", x.count(6), 65535);
        x.king(0, 5, false);
        x.breaths(1);
        long once = (25173L * 65535 + 13849) % 65536;
        Kit.due("X behind two draws", x.count(6), (25173 * once + 13849) % 65536);
        Kit.due("seed 0", x.seed(0), true);
        Kit.law(x, "f9(k=0&r=9)");
        // 13849 is the first X: the DRAW of KING 0 is 9.
        Kit.due("f by the draw", x.tried(1, 10), 0);
        Kit.law(x, "f9(k=0&r=8)");
        Kit.due("not f by the draw", x.tried(1, 10), 5);
    }

    private static void keptAndUndone() {
        TwoKings x = new TwoKings();
        x.king(0, 100, true);
        x.king(1, 80, false);
        Kit.law(x, "f7(k=0);d9(k=1);h(k=0);x(t>5)");
        x.breaths(2);
        Kit.due("keep", x.keep(), 2);
        String kept = Kit.picture(x);
        Kit.due("breaths", x.breaths(9), 5);
        Kit.due("left", x.count(2), 3);
        x.king(0, 3, false);
        x.seed(77);
        Kit.due("undo", x.undo(), true);
        Kit.due("as it was", Kit.picture(x).equals(kept), true);
        x.breaths(1);
        Kit.due("undo again", x.undo(), true);
        Kit.due("as it was again", Kit.picture(x).equals(kept), true);
        x.tolerance(4, 5);
        Kit.treaty(x, "a<b");
        Kit.bytes(x, 1);
        x.undo();
        Kit.due("TOLERANCE is not undone", x.count(7), 4);
        Kit.due("the TREATY is not undone", x.count(3), 1);
        Kit.due("the tape is not undone", x.count(5), 20);
        x.breaths(1);
        Kit.due("keep later", x.keep(), 3);
        x.breaths(1);
        x.undo();
        Kit.due("the last one kept", x.count(0), 3);
    }

    private static void check() {
        TwoKings x = new TwoKings();
        Kit.due("check of nothing", x.check(), -2);
        x.king(0, 999, false);
        x.king(1, 0, false);
        Kit.orders(x, "1b33;0b1");
        Kit.due("a breath", x.breaths(1), 1);
        Kit.due("offence 0", x.kingIs(0, 2), 999);
        Kit.due("offence 1", x.kingIs(1, 2), 32);
        int[] right = {1, 33, 999 % 256, 32};
        Kit.bytes(x, right);
        Kit.due("check right", x.check(), -1);
        Kit.due("tape empty", x.count(5), 0);
        for (int first = 0; first < 4; first++) {
            int[] bytes = right.clone();
            for (int i = first; i < 4; i++) {
                bytes[i]++;
            }
            Kit.bytes(x, bytes);
            Kit.due("check wrong at " + first, x.check(), first);
            Kit.due("tape empty", x.count(5), 0);
        }
        Kit.bytes(x, 1, 33, 999 % 256, 31);
        Kit.due("check wrong at the last", x.check(), 3);
    }

    private static void counts() {
        TwoKings x = new TwoKings();
        x.king(0, 5, false);
        x.king(1, 5, false);
        Kit.due("not met", x.count(1), 0);
        Kit.law(x, "x(k=1&t=1);h(k=0);f1(k=9)");
        Kit.treaty(x, "a<p;c=d");
        x.tolerance(12, 34);
        x.breaths(4);
        Kit.text(x, "a");
        int[] want = {2, 0, 2, 2, 3, 20, x.count(6), 12, 34, 1 | 1 << 15 | 4 | 8};
        for (int what = 0; what < want.length; what++) {
            Kit.due("count " + what, x.count(what), want[what]);
        }
        Kit.due("count 10", x.count(10), -1);
        Kit.due("count -1", x.count(-1), -1);
        x.king(0, 0, false);
        Kit.due("one there", x.count(1), 0);
        x.king(1, 0, false);
        Kit.due("met", x.count(1), 1);
        Kit.due("left no more", x.count(2), 0);
    }
}
