/** The bounds of KINGS, TOLERANCE, THE SEED, what is KEPT, CHECK and count: promises 1 to 3, 10, 27 to 31. */
public final class KingsBoundsTest {
    private static final int BIG = Integer.MAX_VALUE;
    private static final int SMALL = Integer.MIN_VALUE;

    public static void main(String[] args) {
        newObject();
        nothingIsShared();
        numbersOfKings();
        stepsLeft();
        whatAKingBeginsWith();
        whatAKingLeavesAlone();
        met();
        leftOrNot();
        tolerance();
        kingIs();
        seed();
        draws();
        keepAndUndo();
        whatIsKept();
        check();
        count();
        Kit.end();
    }

    private static void newObject() {
        TwoKings x = new TwoKings();
        Kit.says("`TwoKings()`: No LAW, no TREATY; THE SEED 1.");
        Kit.due("RULES", x.count(4), 0);
        Kit.due("LINES", x.count(3), 0);
        Kit.due("ACTS", x.count(9), 0);
        Kit.due("X", x.count(6), 1);
        for (int a = 0; a <= 15; a++) {
            Kit.due("the MOMENT of " + a, x.moments(a), -2);
            Kit.due("at once with " + a, x.act(a, 0), -2);
            Kit.due("ahead of " + a, x.act(a, 1), -2);
        }
        Kit.due("a contradiction", x.moments(101), -2);
        Kit.says("what 100 how many (no ACT: 0)");
        Kit.due("MOMENTS", x.moments(100), 0);
        Kit.says("STEPS LEFT to the raft (0 to 999; 0 at first), a BOW (0 to 90 degrees; 0 at first), "
                + "OFFENCE (0 to 9999; 0 at first), a HAT on (at first) or off; he LIMPS or not (not at first)");
        for (int k = 0; k <= 1; k++) {
            for (int what = 0; what <= 5; what++) {
                Kit.due("kingIs " + k + " " + what, x.kingIs(k, what), what == 3 ? 1 : 0);
            }
        }
        Kit.says("THE BREATH (0 at first)");
        Kit.due("THE BREATH", x.count(0), 0);
        Kit.says("of STEPS (0 to 99), of degrees (0 to 90); 0 and 0 at first.");
        Kit.due("of STEPS", x.count(7), 0);
        Kit.due("of degrees", x.count(8), 0);
        Kit.due("who has LEFT", x.count(2), 0);
        Kit.due("the tape", x.count(5), 0);
        // Without a LAW nobody goes forward, bows, takes his HAT off or on, or LEAVES.
        Kit.says("THE LAW: a TEXT of at most 240 bytes, no blanks (none at first)");
        x.king(0, 3, false);
        Kit.orders(x, "0b7;0o");
        Kit.due("BREATHS", x.breaths(2), 2);
        int[] want = {3, 7, 22, 0, 0, 0};
        for (int what = 0; what <= 5; what++) {
            Kit.due("lawless kingIs " + what, x.kingIs(0, what), want[what]);
        }
    }

    private static void nothingIsShared() {
        Kit.says("All memory is the raft's own.");
        TwoKings x = new TwoKings();
        TwoKings y = new TwoKings();
        x.king(0, 30, true);
        x.tolerance(4, 5);
        x.seed(77);
        Kit.law(x, "f1(1=1)");
        Kit.treaty(x, "a<b;c=d");
        x.breaths(2);
        x.keep();
        Kit.zeros(x, 1);
        Kit.due("another one", Kit.picture(y), Kit.picture(new TwoKings()));
        Kit.due("another one's KEPT", y.undo(), false);
        String before = Kit.picture(x);
        y.king(0, 7, false);
        y.king(1, 7, false);
        Kit.law(y, "f3(1=1);d2(1=1)");
        Kit.treaty(y, "e<f");
        y.breaths(1);
        y.keep();
        Kit.due("this one behind another one's calls", Kit.picture(x), before);
    }

    private static void numbersOfKings() {
        Kit.says("KINGS 0 and 1");
        TwoKings x = Kit.kings(11, 22);
        for (int k : new int[] {-1, 2, 3, -2, BIG, SMALL}) {
            Kit.due("king " + k, x.king(k, 5, true), false);
            for (int what = 0; what <= 5; what++) {
                Kit.due("kingIs " + k + " " + what, x.kingIs(k, what), -1);
            }
        }
        Kit.due("KING 0", x.kingIs(0, 0), 11);
        Kit.due("KING 1", x.kingIs(1, 0), 22);
        Kit.due("KING 0 LIMPS", x.kingIs(0, 4), 0);
        Kit.due("KING 1 LIMPS", x.kingIs(1, 4), 0);
    }

    private static void stepsLeft() {
        Kit.says("STEPS LEFT to the raft (0 to 999; 0 at first)");
        for (int k = 0; k <= 1; k++) {
            TwoKings x = Kit.kings(500, 500);
            for (int steps : new int[] {0, 1, 998, 999}) {
                Kit.due("king " + k + " " + steps, x.king(k, steps, false), true);
                Kit.due("STEPS LEFT of " + k, x.kingIs(k, 0), steps);
                Kit.due("the other one's", x.kingIs(1 - k, 0), 500);
            }
            for (int steps : new int[] {-1, 1000, 1001, -999, BIG, SMALL}) {
                Kit.due("king " + k + " " + steps, x.king(k, steps, true), false);
                Kit.due("STEPS LEFT stay", x.kingIs(k, 0), 999);
                Kit.due("he LIMPS as before", x.kingIs(k, 4), 0);
            }
        }
    }

    private static void whatAKingBeginsWith() {
        Kit.says("A KING (BOW, OFFENCE 0, the HAT on, not LEFT): true; false: no such ones.");
        for (int k = 0; k <= 1; k++) {
            TwoKings x = new TwoKings();
            x.king(k, 10, true);
            Kit.law(x, "x(1=1);d8(k=" + k + ");h(k=" + k + ")");
            x.breaths(1);
            int[] before = {10, 8, 10 + 8 + 1, 0, 1, 1};
            for (int what = 0; what <= 5; what++) {
                Kit.due("before: kingIs " + k + " " + what, x.kingIs(k, what), before[what]);
            }
            Kit.due("no such STEPS", x.king(k, 1000, false), false);
            for (int what = 0; what <= 5; what++) {
                Kit.due("refused: kingIs " + k + " " + what, x.kingIs(k, what), before[what]);
            }
            Kit.due("the king anew", x.king(k, 3, false), true);
            int[] after = {3, 0, 0, 1, 0, 0};
            for (int what = 0; what <= 5; what++) {
                Kit.due("after: kingIs " + k + " " + what, x.kingIs(k, what), after[what]);
            }
            Kit.due("the other one has LEFT still", x.count(2), 2 - k);
        }
    }

    private static void whatAKingLeavesAlone() {
        Kit.says("`boolean king(int k, int stepsLeft, boolean limps)`");
        TwoKings x = Kit.kings(30, 40);
        x.tolerance(1, 2);
        Kit.law(x, "f1(1=1)");
        Kit.treaty(x, "a<b");
        x.breaths(3);
        Kit.zeros(x, 2);
        int drawn = x.count(6);
        x.king(0, 5, true);
        int[] want = {3, 0, 0, 1, 1, 40, drawn, 1, 2, 3};
        for (int what = 0; what <= 9; what++) {
            Kit.due("count " + what, x.count(what), want[what]);
        }
        Kit.due("the other one's STEPS LEFT", x.kingIs(1, 0), 37);
        Kit.due("the other one's OFFENCE", x.kingIs(1, 2), 30);
    }

    private static void met() {
        Kit.says("They have MET when neither has any STEPS LEFT.");
        TwoKings x = new TwoKings();
        int[][] kings = {{0, 0, 1}, {1, 0, 0}, {0, 1, 0}, {1, 1, 0}, {999, 0, 0}, {0, 999, 0}};
        for (int[] one : kings) {
            x.king(0, one[0], false);
            x.king(1, one[1], false);
            Kit.due("MET at " + one[0] + " and " + one[1], x.count(1), one[2]);
            Kit.due("tried MET at " + one[0] + " and " + one[1], x.tried(1, 1), one[2]);
        }
    }

    private static void leftOrNot() {
        Kit.says("he has LEFT or not.");
        TwoKings x = Kit.kings(8, 9);
        Kit.law(x, "x(k=1&t=1)");
        for (int breath = 1; breath <= 2; breath++) {
            x.breaths(1);
            Kit.due("KING 0 behind " + breath, x.kingIs(0, 5), 0);
            Kit.due("KING 1 behind " + breath, x.kingIs(1, 5), breath - 1);
        }
        // Neither another LAW nor ORDERS bring him back, only a KING anew does.
        Kit.law(x, "f1(1=1)");
        Kit.orders(x, "*f1;*h;*b5;*a9");
        Kit.due("he has LEFT still", x.kingIs(1, 5), 1);
        x.king(0, 8, false);
        Kit.due("he has LEFT behind the other one's coming", x.kingIs(1, 5), 1);
        x.king(1, 9, false);
        Kit.due("he has not LEFT", x.kingIs(1, 5), 0);
    }

    private static void tolerance() {
        Kit.says("`boolean tolerance(int steps, int degrees)`: TOLERANCE: true; false: no such ones.");
        TwoKings x = new TwoKings();
        int[][] taken = {{99, 90}, {0, 90}, {99, 0}, {0, 0}, {98, 89}, {7, 8}};
        for (int[] one : taken) {
            Kit.due("tolerance " + one[0] + " " + one[1], x.tolerance(one[0], one[1]), true);
            Kit.due("of STEPS", x.count(7), one[0]);
            Kit.due("of degrees", x.count(8), one[1]);
        }
        int[][] not = {{100, 1}, {-1, 1}, {1, 91}, {1, -1}, {100, 91}, {BIG, 1}, {SMALL, 1}, {1, BIG}, {1, SMALL}};
        for (int[] one : not) {
            Kit.due("tolerance " + one[0] + " " + one[1], x.tolerance(one[0], one[1]), false);
            Kit.due("of STEPS stays", x.count(7), 7);
            Kit.due("of degrees stays", x.count(8), 8);
        }
    }

    private static void kingIs() {
        Kit.says("what 0 STEPS LEFT, 1 BOW, 2 OFFENCE, 3 the HAT on (1, 0), 4 LIMPS (1, 0), 5 has LEFT (1, 0); "
                + "NONE for others.");
        TwoKings x = new TwoKings();
        x.king(0, 9, true);
        x.king(1, 4, false);
        Kit.orders(x, "0b30;1b2;1o");
        Kit.law(x, "x(k=0)");
        x.breaths(1);
        int[][] want = {{9, 30, 5 + 28, 1, 1, 1}, {4, 2, 1, 0, 0, 0}};
        for (int k = 0; k <= 1; k++) {
            for (int what = 0; what <= 5; what++) {
                Kit.due("kingIs " + k + " " + what, x.kingIs(k, what), want[k][what]);
            }
            for (int what : new int[] {-1, 6, 7, 10, 100, BIG, SMALL}) {
                Kit.due("kingIs " + k + " " + what, x.kingIs(k, what), -1);
            }
        }
    }

    private static void seed() {
        Kit.says("`boolean seed(int x)`: THE SEED (0 to 65535; X, too): true; false: no such number.");
        TwoKings x = new TwoKings();
        for (int seed : new int[] {0, 65535, 65534, 32768, 1}) {
            Kit.due("seed " + seed, x.seed(seed), true);
            Kit.due("X", x.count(6), seed);
        }
        for (int seed : new int[] {-1, 65536, 65537, 131072, BIG, SMALL}) {
            Kit.due("seed " + seed, x.seed(seed), false);
            Kit.due("X stays", x.count(6), 1);
        }
        // THE SEED in the midst of it: the DRAWS go on from there.
        x.king(0, 500, false);
        x.breaths(3);
        x.seed(1);
        Kit.due("X behind THE SEED", x.count(6), 1);
        x.breaths(1);
        Kit.due("X behind two DRAWS more", x.count(6), drawn(drawn(1)));
        Kit.due("THE BREATH stays", x.count(0), 4);
    }

    private static int drawn(int x) {
        return (int) ((25173L * x + 13849) % 65536);
    }

    private static void draws() {
        Kit.says("X = (25173 X + 13849) modulo 65536 (X is THE SEED at first, 1): X modulo 10.");
        TwoKings x = Kit.kings(999, 999);
        Kit.law(x, "fr(1=1)");
        // Without a seed of ours, and then with the least, the greatest and others.
        int[] seeds = {1, 0, 65535, 65534, 2, 32767, 32768, 4711, 51687, 40000, 12345, 61234};
        for (int seed : seeds) {
            Kit.due("seed " + seed, x.count(6) == seed || x.seed(seed), true);
            int first = drawn(seed);
            int other = drawn(first);
            Kit.due("the DRAW of KING 0 by " + seed, x.tried(1, 10), 999 - first % 10);
            Kit.due("the DRAW of KING 1 by " + seed, x.tried(1, 11), 999 - other % 10);
            int next = drawn(other);
            Kit.due("the next one of KING 0 by " + seed, x.tried(2, 10), 999 - first % 10 - next % 10);
            Kit.due("X is not changed by what is tried", x.count(6), seed);
        }
        x.seed(51687);
        x.breaths(1);
        Kit.due("X behind a BREATH", x.count(6), drawn(drawn(51687)));
    }

    private static void keepAndUndo() {
        Kit.says("`boolean undo()`: UNDONE: true; false: none was KEPT.");
        TwoKings x = Kit.kings(50, 60);
        x.breaths(2);
        String before = Kit.picture(x);
        Kit.due("undo", x.undo(), false);
        Kit.due("refused", Kit.picture(x), before);
        Kit.says("`int keep()`: KEPT: THE BREATH.");
        TwoKings fresh = new TwoKings();
        Kit.due("keep at first", fresh.keep(), 0);
        Kit.due("undo then", fresh.undo(), true);
        Kit.due("keep", x.keep(), 2);
        Kit.due("nothing is changed by it", Kit.picture(x), before);
        Kit.says("UNDONE: as they were KEPT last.");
        x.breaths(5);
        Kit.due("undo", x.undo(), true);
        Kit.due("as it was", Kit.picture(x), before);
        x.breaths(1);
        Kit.due("undo once more", x.undo(), true);
        Kit.due("THE BREATH once more", x.count(0), 2);
        x.breaths(4);
        Kit.due("keep again", x.keep(), 6);
        x.breaths(1);
        Kit.due("undo to the last one", x.undo(), true);
        Kit.due("THE BREATH of the last one", x.count(0), 6);
        // The one KEPT before that is gone: undo does not go back any further.
        Kit.due("undo again and again", x.undo() && x.undo(), true);
        Kit.due("THE BREATH of the last one still", x.count(0), 6);
        // KEPT where nothing has changed since, and behind an undo.
        Kit.due("keep the same", x.keep(), 6);
        Kit.due("undo to the same", x.undo(), true);
        Kit.due("THE BREATH of the same", x.count(0), 6);
    }

    private static void whatIsKept() {
        Kit.says("KEPT: KINGS, THE BREATH, X; UNDONE: as they were KEPT last.");
        for (int k = 0; k <= 1; k++) {
            TwoKings x = new TwoKings();
            x.king(k, 20, true);
            Kit.law(x, "x(k=" + k + ");d8(k=" + k + ");h(k=" + k + ")");
            x.breaths(1);
            int drawn = x.count(6);
            Kit.due("keep", x.keep(), 1);
            // What is not KEPT: TOLERANCE, THE LAW, the TREATY, the tape.
            x.tolerance(11, 12);
            Kit.law(x, "f1(1=1);f2(1=1)");
            Kit.treaty(x, "a<b;b<c;c<d");
            x.king(0, 33, false);
            x.king(1, 44, false);
            x.breaths(3);
            x.seed(999);
            Kit.zeros(x, 3);
            Kit.due("undo", x.undo(), true);
            int[] kept = {20, 8, 20 + 8 + 1, 0, 1, 1};
            int[] other = {0, 0, 0, 1, 0, 0};
            for (int what = 0; what <= 5; what++) {
                Kit.due("kingIs " + k + " " + what, x.kingIs(k, what), kept[what]);
                Kit.due("the other one's " + what, x.kingIs(1 - k, what), other[what]);
            }
            int[] counts = {1, 0, k + 1, 3, 2, 60, drawn, 11, 12, 15};
            for (int what = 0; what <= 9; what++) {
                Kit.due("count " + what, x.count(what), counts[what]);
            }
        }
    }

    private static void check() {
        Kit.says("`int check()`: CHECK by the first 4 bytes of the tape (empty then): NONE: right; "
                + "else the first that is not so (0 to 3); -2: it has not so many (the tape stays).");
        TwoKings x = new TwoKings();
        Kit.due("of an empty tape", x.check(), -2);
        Kit.due("it stays", x.count(5), 0);
        Kit.bytes(x, 0, 0, 0, 0, 9, 9);
        Kit.due("of a new object", x.check(), -1);
        Kit.due("it is empty then", x.count(5), 0);
        Kit.due("of an empty tape again", x.check(), -2);
        Kit.zeros(x, 13);
        Kit.due("of a full tape", x.check(), -1);
        Kit.due("a full tape is empty then", x.count(5), 0);
        for (int first = 0; first <= 3; first++) {
            for (int wrong : new int[] {1, 128, 255}) {
                int[] bytes = {0, 0, 0, 0};
                bytes[first] = wrong;
                Kit.bytes(x, bytes);
                Kit.due("not so at " + first + " alone", x.check(), first);
                Kit.due("empty then, too", x.count(5), 0);
                bytes[3] = wrong;
                Kit.bytes(x, bytes);
                Kit.due("not so at " + first + " and the last", x.check(), first);
            }
        }
        Kit.says("CHECK: BOWS of both, then OFFENCES modulo 256: right, or the first of the four that is not so.");
        int[][] offences = {{255, 255}, {256, 0}, {257, 1}, {511, 255}, {512, 0}};
        for (int[] one : offences) {
            for (int k = 0; k <= 1; k++) {
                x = new TwoKings();
                x.king(k, one[0], false);
                x.breaths(1);
                Kit.orders(x, "0b90;1b89");
                Kit.due("OFFENCE", x.kingIs(k, 2), one[0]);
                Kit.bytes(x, 90, 89, k == 0 ? one[1] : 0, k == 1 ? one[1] : 0);
                Kit.due("OFFENCE " + one[0] + " of " + k, x.check(), -1);
                Kit.bytes(x, 89, 90, k == 0 ? one[1] : 0, k == 1 ? one[1] : 0);
                Kit.due("BOWS the other way round", x.check(), 0);
                Kit.bytes(x, 90, 90, 0, 0);
                Kit.due("the other BOW", x.check(), 1);
            }
        }
        x = Kit.kings(999, 0);
        x.breaths(20);
        Kit.bytes(x, 0, 0, 9999 % 256, 0);
        Kit.due("the greatest OFFENCE", x.check(), -1);
    }

    private static void count() {
        Kit.says("NONE for others.");
        TwoKings x = new TwoKings();
        for (int what : new int[] {-1, 10, 11, 100, BIG, SMALL}) {
            Kit.due("count " + what, x.count(what), -1);
        }
        Kit.says("0 THE BREATH, 1 whether they have MET (1, 0), 2 who has LEFT (bits), 3 LINES of the TREATY, 4 RULES, "
                + "5 bytes of the tape, 6 X, 7 TOLERANCE of STEPS, 8 of degrees, 9 ACTS that the TREATY names (bits).");
        x = Kit.kings(40, 50);
        x.tolerance(17, 18);
        Kit.law(x, "f1(k=0);f2(k=0);x(t=12);h(1=2)");
        Kit.treaty(x, "a<b;c<d;e<f;g<h;i=j;k=l;m=n");
        x.breaths(20);
        x.seed(4321);
        Kit.zeros(x, 2);
        int[] want = {13, 0, 3, 7, 4, 40, 4321, 17, 18, 16383};
        for (int what = 0; what <= 9; what++) {
            Kit.due("count " + what, x.count(what), want[what]);
        }
        Kit.says("NONE = -1");
        Kit.due("NONE", TwoKings.NONE, -1);
        Kit.says("2 who has LEFT (bits)");
        String[] laws = {"x(1=2)", "x(k=0)", "x(k=1)", "x(1=1)"};
        for (int bits = 0; bits <= 3; bits++) {
            x = Kit.kings(1, 1);
            Kit.law(x, laws[bits]);
            Kit.due("tried LEFT by " + laws[bits], x.tried(1, 2), bits);
            x.breaths(1);
            Kit.due("LEFT by " + laws[bits], x.count(2), bits);
            Kit.due("LEFT of KING 0", x.kingIs(0, 5), bits & 1);
            Kit.due("LEFT of KING 1", x.kingIs(1, 5), bits >> 1);
        }
        Kit.says("5 bytes of the tape");
        for (int i = 1; i <= 13; i++) {
            Kit.zeros(x, 1);
            Kit.due("bytes", x.count(5), 20 * i);
        }
    }
}
