/** The bounds of a BREATH, and of what is tried of BREATHS: promises 8, 9 and 11 to 14. */
public final class BreathBoundsTest {
    private static final int[] NO_SUCH_N = {0, -1, 241, 242, -240, 256 + 5, Integer.MAX_VALUE, Integer.MIN_VALUE};

    /** A call that is asked n BREATHS. */
    private interface Asked {
        int of(TwoKings x, int n);
    }

    public static void main(String[] args) {
        whenNoneGoesBy();
        stepsAtTheirBound();
        oneWhoLimps();
        bowAtItsBounds();
        offenceBySteps();
        offenceByBows();
        offenceByHats();
        greatestOffence();
        offenceBehindTheMove();
        bothMayLeave();
        hatAsItSays();
        lastBreath();
        numbersOfBreaths();
        breaths();
        tried();
        meet();
        meetWho();
        leaves();
        worst();
        nearer();
        nothingIsChanged();
        Kit.end();
    }

    private static void whenNoneGoesBy() {
        Kit.says("A BREATH (if they have not MET, neither has LEFT)");
        int[][] kings = {{0, 0, 0}, {1, 0, 5}, {0, 1, 5}, {1, 1, 5}};
        for (int[] one : kings) {
            TwoKings x = Kit.kings(one[0], one[1]);
            Kit.due("tried at " + one[0] + " and " + one[1], x.tried(5, 0), one[2]);
            Kit.due("BREATHS at " + one[0] + " and " + one[1], x.breaths(5), one[2]);
            Kit.due("THE BREATH", x.count(0), one[2]);
            Kit.due("X stays", x.count(6) == 1, one[2] == 0);
        }
        for (String left : new String[] {"x(k=0)", "x(k=1)", "x(1=1)"}) {
            TwoKings x = Kit.kings(9, 9);
            Kit.law(x, left);
            Kit.due("BREATHS by " + left, x.breaths(5), 1);
            Kit.law(x, "f1(1=1)");
            String before = Kit.picture(x);
            Kit.due("BREATHS behind " + left, x.breaths(5), 0);
            Kit.due("all stays behind " + left, Kit.picture(x), before);
        }
        // One who has LEFT and comes anew: BREATHS go by again, if the other one has not.
        TwoKings x = Kit.kings(9, 9);
        Kit.law(x, "x(t=0)");
        x.breaths(1);
        x.king(0, 9, false);
        Kit.due("the other one has LEFT", x.breaths(1), 0);
        x.king(1, 9, false);
        Kit.due("both are anew", x.breaths(1), 1);
    }

    private static void stepsAtTheirBound() {
        Kit.says("(2) Each: STEPS LEFT are less by f (0 at least)");
        int[][] steps = {{10, 9, 1}, {9, 9, 0}, {8, 9, 0}, {1, 9, 0}, {1, 1, 0}, {5, 0, 5}, {999, 9, 990}, {1, 0, 1}};
        for (int[] one : steps) {
            for (int k = 0; k <= 1; k++) {
                TwoKings x = new TwoKings();
                x.king(k, one[0], false);
                x.king(1 - k, 500, false);
                Kit.law(x, "f" + one[1] + "(k=" + k + ")");
                Kit.due("tried: " + one[0] + " less " + one[1], x.tried(1, 10 + k), one[2]);
                x.breaths(1);
                Kit.due(one[0] + " less " + one[1], x.kingIs(k, 0), one[2]);
                Kit.due("the other one's", x.kingIs(1 - k, 0), 500);
            }
        }
        TwoKings x = Kit.kings(0, 20);
        Kit.law(x, "f9(1=1)");
        Kit.due("none stay none", x.tried(2, 10), 0);
        Kit.due("the other one goes on", x.tried(2, 11), 2);
    }

    private static void oneWhoLimps() {
        Kit.says("of one who LIMPS by half of f, rounded down");
        for (int f = 0; f <= 9; f++) {
            for (int k = 0; k <= 1; k++) {
                TwoKings x = new TwoKings();
                x.king(k, 100, true);
                x.king(1 - k, 100, false);
                Kit.law(x, "f" + f + "(1=1)");
                Kit.due("he who LIMPS by " + f, x.tried(1, 10 + k), 100 - f / 2);
                Kit.due("who does not by " + f, x.tried(1, 11 - k), 100 - f);
                Kit.due("twice by " + f, x.tried(2, 10 + k), 100 - 2 * (f / 2));
            }
        }
        // The bound of f first, then half of it; and 0 at least.
        TwoKings x = new TwoKings();
        x.king(0, 100, true);
        x.king(1, 3, true);
        Kit.law(x, "f90(1=1)");
        Kit.due("half of 9", x.tried(1, 10), 96);
        Kit.due("0 at least", x.tried(1, 11), 0);
    }

    private static void bowAtItsBounds() {
        Kit.says("the BOW is more by d, less by u (0 to 90)");
        int[][] bows = {{80, 9, 0, 89}, {80, 10, 0, 90}, {80, 11, 0, 90}, {90, 1, 0, 90}, {90, 90, 0, 90}, {0, 90, 0, 90},
            {10, 0, 9, 1}, {10, 0, 10, 0}, {10, 0, 11, 0}, {0, 0, 1, 0}, {0, 0, 90, 0}, {90, 0, 90, 0}, {50, 7, 3, 54},
            {50, 3, 7, 46}, {50, 40, 40, 50}, {90, 0, 1, 89}, {0, 1, 0, 1}, {1, 0, 1, 0}, {89, 1, 0, 90}, {0, 0, 0, 0},
            {90, 0, 0, 90}};
        for (int[] one : bows) {
            for (int k = 0; k <= 1; k++) {
                TwoKings x = Kit.kings(9, 9);
                Kit.orders(x, k + "b" + one[0] + ";" + (1 - k) + "b45");
                Kit.law(x, "d" + one[1] + "(k=" + k + ");u" + one[2] + "(k=" + k + ")");
                Kit.due("tried: " + one[0] + " more " + one[1] + " less " + one[2], x.tried(1, 30 + k), one[3]);
                x.breaths(1);
                Kit.due(one[0] + " more " + one[1] + " less " + one[2], x.kingIs(k, 1), one[3]);
                Kit.due("the other one's", x.kingIs(1 - k, 1), 45);
            }
        }
    }

    private static void offenceBySteps() {
        Kit.says("(3) Has one fewer STEPS LEFT than the other one by more than TOLERANCE, "
                + "the other one's OFFENCE is more by that difference");
        int[][] steps = {{0, 0}, {0, 1}, {0, 2}, {1, 1}, {1, 2}, {5, 4}, {5, 5}, {5, 6}, {99, 98}, {99, 99}, {99, 100},
            {99, 899}};
        for (int[] one : steps) {
            for (int k = 0; k <= 1; k++) {
                TwoKings x = new TwoKings();
                x.king(k, 100, false);
                x.king(1 - k, 100 + one[1], false);
                x.tolerance(one[0], 90);
                int grows = one[1] > one[0] ? one[1] : 0;
                Kit.due("the other one's by " + one[1] + " of " + one[0], x.tried(1, 21 - k), grows);
                Kit.due("his own", x.tried(1, 20 + k), 0);
                Kit.due("three times", x.tried(3, 21 - k), 3 * grows);
            }
        }
    }

    private static void offenceByBows() {
        Kit.says("is one's BOW deeper by more than TOLERANCE, his own OFFENCE is more by that difference");
        int[][] bows = {{0, 0}, {0, 1}, {0, 90}, {1, 1}, {1, 2}, {5, 4}, {5, 5}, {5, 6}, {89, 89}, {89, 90}, {90, 90}};
        for (int[] one : bows) {
            for (int k = 0; k <= 1; k++) {
                TwoKings x = Kit.kings(9, 9);
                x.tolerance(99, one[0]);
                Kit.orders(x, k + "b" + one[1]);
                int grows = one[1] > one[0] ? one[1] : 0;
                Kit.due("his own by " + one[1] + " of " + one[0], x.tried(1, 20 + k), grows);
                Kit.due("the other one's", x.tried(1, 21 - k), 0);
                Kit.due("three times", x.tried(3, 20 + k), 3 * grows);
            }
        }
        // Each by a TOLERANCE of its own.
        TwoKings x = Kit.kings(20, 30);
        Kit.orders(x, "0b20;1b30");
        x.tolerance(9, 10);
        Kit.due("STEPS alone", x.tried(1, 21), 10);
        x.tolerance(10, 9);
        Kit.due("BOWS alone", x.tried(1, 21), 10);
        x.tolerance(9, 9);
        Kit.due("both", x.tried(1, 21), 20);
        x.tolerance(10, 10);
        Kit.due("neither", x.tried(1, 21), 0);
    }

    private static void offenceByHats() {
        Kit.says("is one's HAT off and the other one's on, his OFFENCE is 1 more");
        String[] hats = {"*h", "0o;1h", "0h;1o", "*o"};
        int[][] grow = {{0, 0}, {1, 0}, {0, 1}, {0, 0}};
        for (int i = 0; i < 4; i++) {
            TwoKings x = Kit.kings(9, 9);
            Kit.orders(x, hats[i]);
            for (int k = 0; k <= 1; k++) {
                Kit.due("OFFENCE of " + k + " by " + hats[i], x.tried(1, 20 + k), grow[i][k]);
                Kit.due("OFFENCE of " + k + " five times by " + hats[i], x.tried(5, 20 + k), 5 * grow[i][k]);
            }
        }
    }

    /** One whose OFFENCE is nearly the greatest. */
    private static TwoKings offended(int k, int offence) {
        TwoKings x = new TwoKings();
        x.king(k, 999, false);
        x.breaths(10);
        // 9990 now; then what is lacking, by a BOW, and a place beside the other one.
        Kit.orders(x, k + "b" + (offence - 9990) + ";" + (1 - k) + "b0;" + k + "f998");
        x.tolerance(1, 0);
        x.breaths(1);
        Kit.orders(x, k + "b0");
        Kit.due("OFFENCE for a start", x.kingIs(k, 2), offence);
        return x;
    }

    private static void greatestOffence() {
        Kit.says("(9999 at most each)");
        int[] starts = {9997, 9998, 9999};
        for (int start : starts) {
            for (int k = 0; k <= 1; k++) {
                for (int more = 0; more <= 4; more++) {
                    TwoKings x = offended(k, start);
                    Kit.orders(x, k + "b" + more);
                    Kit.due("by a BOW of " + more, x.tried(1, 20 + k), Math.min(9999, start + more));
                    x.breaths(1);
                    Kit.due("by a BOW of " + more + " in truth", x.kingIs(k, 2), Math.min(9999, start + more));
                }
                TwoKings x = offended(k, start);
                Kit.orders(x, k + "o");
                Kit.due("by a HAT", x.tried(1, 20 + k), Math.min(9999, start + 1));
                Kit.due("by a HAT for long", x.tried(240, 20 + k), 9999);
                x = offended(k, start);
                x.tolerance(0, 0);
                Kit.due("by a STEP", x.tried(1, 20 + k), Math.min(9999, start + 1));
                // All three at once: 1 of the STEPS, 90 of the BOW, 1 of the HAT.
                Kit.orders(x, k + "b90;" + k + "o");
                Kit.due("by all", x.tried(1, 20 + k), 9999);
                Kit.due("the other one's stays", x.tried(1, 21 - k), 0);
            }
        }
    }

    private static void offenceBehindTheMove() {
        Kit.says("A BREATH (if they have not MET, neither has LEFT): (1) a DRAW for KING 0, one for KING 1");
        // OFFENCE is asked of how they stand behind (2), and before anybody LEAVES by (4).
        TwoKings x = Kit.kings(20, 20);
        Kit.law(x, "f6(k=0);d8(k=1);h(k=0);x(1=1)");
        Kit.due("of 0 by his HAT", x.tried(1, 20), 1);
        Kit.due("of 1 by STEPS and BOW", x.tried(1, 21), 14);
        Kit.due("both LEAVE then", x.tried(1, 2), 3);
        x = Kit.kings(5, 3);
        Kit.law(x, "f9(1=1)");
        Kit.due("none when both are there", x.tried(1, 20) + x.tried(1, 21), 0);
        // What one does is his own alone.
        x = Kit.kings(50, 50);
        Kit.law(x, "f3(k=0);f4(k=1);d5(k=0);d6(k=1)");
        x.breaths(1);
        int[][] want = {{47, 5, 1}, {46, 6, 1}};
        for (int k = 0; k <= 1; k++) {
            for (int what = 0; what <= 2; what++) {
                Kit.due("kingIs " + k + " " + what, x.kingIs(k, what), want[k][what]);
            }
        }
    }

    private static void bothMayLeave() {
        Kit.says("(4) By x one LEAVES (both may).");
        String[] laws = {"x(k=0)", "x(k=1)", "x(1=1)", "x(k=0);x(k=1)", "x(1=2)"};
        int[] left = {1, 2, 3, 3, 0};
        for (int i = 0; i < laws.length; i++) {
            TwoKings x = Kit.kings(9, 9);
            Kit.law(x, laws[i]);
            Kit.due("BREATHS by " + laws[i], x.breaths(2), left[i] == 0 ? 2 : 1);
            Kit.due("LEFT by " + laws[i], x.count(2), left[i]);
        }
    }

    private static TwoKings nearTheLast(int lacking) {
        TwoKings x = Kit.kings(9, 9);
        for (int i = 0; i < 41; i++) {
            x.breaths(240);
        }
        x.breaths(9999 - 41 * 240 - lacking);
        Kit.due("THE BREATH", x.count(0), 9999 - lacking);
        return x;
    }

    private static void hatAsItSays() {
        Kit.says("the HAT as h says.");
        // Each of the two, on and off, by an h that holds for one, both, none, and by none at all.
        String[] laws = {"h(1=1)", "h(k=0)", "h(k=1)", "h(1=2)", "f0(1=1)"};
        int[][] hats = {{0, 0}, {0, 1}, {1, 0}, {1, 1}, {-1, -1}};
        for (int i = 0; i < laws.length; i++) {
            for (int was = 0; was <= 3; was++) {
                TwoKings x = Kit.kings(9, 9);
                Kit.orders(x, ((was & 1) != 0 ? "0h" : "0o") + ((was & 2) != 0 ? ";1h" : ";1o"));
                Kit.law(x, laws[i]);
                x.breaths(1);
                for (int k = 0; k <= 1; k++) {
                    int want = hats[i][k] == -1 ? was >> k & 1 : hats[i][k];
                    Kit.due("HAT of " + k + " by " + laws[i] + " from " + was, x.kingIs(k, 3), want);
                }
            }
        }
    }

    private static void lastBreath() {
        Kit.says("THE BREATH is one more (9999 at most: then none goes by).");
        for (int lacking = 0; lacking <= 2; lacking++) {
            TwoKings x = nearTheLast(lacking);
            Kit.law(x, "f1(1=1);x(t=0)");
            Kit.due("tried at the last but " + lacking, x.tried(240, 0), lacking);
            Kit.due("STEPS then", x.tried(240, 10), 9 - lacking);
            Kit.due("no MEETING", x.meet(240, 0), -2);
            Kit.due("nobody LEAVES", x.leaves(240, 0), -2);
            Kit.due("as many STEPS", x.nearer(240, 2), lacking);
            Kit.due("BREATHS at the last but " + lacking, x.breaths(240), lacking);
            Kit.due("THE BREATH is the last one", x.count(0), 9999);
            String before = Kit.picture(x);
            Kit.due("none goes by", x.breaths(1), 0);
            Kit.due("all stays", Kit.picture(x), before);
            Kit.due("KEPT there", x.keep(), 9999);
            x.king(0, 5, false);
            Kit.due("none for a KING anew", x.breaths(1), 0);
        }
        // In the BREATH that is the last one all goes on as ever.
        TwoKings x = nearTheLast(1);
        Kit.law(x, "f9(t=98)");
        Kit.due("MET behind the last one", x.meet(1, 0), 1);
        Kit.law(x, "x(k=1&t=98)");
        Kit.due("LEFT in the last one", x.leaves(1, 0), 1);
    }

    private static void numbersOfBreaths() {
        Asked[] calls = {(x, n) -> x.breaths(n), (x, n) -> x.tried(n, 0), (x, n) -> x.tried(n, 31), (x, n) -> x.meet(n, 0),
            (x, n) -> x.meet(n, 1), (x, n) -> x.leaves(n, 0), (x, n) -> x.leaves(n, 1), (x, n) -> x.worst(n),
            (x, n) -> x.nearer(n, 0), (x, n) -> x.nearer(n, 4)};
        String[] sentences = {"BREATHS (1 to 240; as many as can) go by: how many went by; NONE: no such n.",
            "BREATHS (1 to 240; as many as can) that are tried", "BREATHS (1 to 240; as many as can) that are tried",
            "MEET in n BREATHS (1 to 240)", "MEET in n BREATHS (1 to 240)", "LEAVES in n BREATHS (1 to 240)",
            "LEAVES in n BREATHS (1 to 240)", "WORST in n BREATHS (1 to 240); NONE: no such n.",
            "NEARER in n BREATHS (1 to 240)", "NEARER in n BREATHS (1 to 240)"};
        for (int i = 0; i < calls.length; i++) {
            Kit.says(sentences[i]);
            // In the midst, when they have MET, and when one has LEFT.
            TwoKings[] states = {Kit.kings(99, 98), new TwoKings(), Kit.kings(3, 4)};
            Kit.law(states[2], "x(1=1)");
            states[2].breaths(1);
            for (TwoKings x : states) {
                String before = Kit.picture(x);
                for (int n : NO_SUCH_N) {
                    Kit.due("n " + n, calls[i].of(x, n), -1);
                }
                Kit.due("nothing is changed", Kit.picture(x), before);
                Kit.due("n 1 is taken", calls[i].of(x, 1) != -1, true);
                Kit.due("n 240 is taken", calls[i].of(x, 240) != -1, true);
            }
        }
    }

    private static void breaths() {
        Kit.says("`int breaths(int n)`: BREATHS (1 to 240; as many as can) go by: how many went by");
        for (int n : new int[] {1, 2, 239, 240}) {
            TwoKings x = Kit.kings(999, 999);
            Kit.law(x, "f1(1=1)");
            Kit.due("BREATHS " + n, x.breaths(n), n);
            Kit.due("THE BREATH", x.count(0), n);
            Kit.due("STEPS LEFT", x.kingIs(0, 0), 999 - n);
        }
        TwoKings x = Kit.kings(5, 3);
        Kit.law(x, "f1(1=1)");
        Kit.due("as many as can", x.breaths(240), 5);
        Kit.due("none can", x.breaths(240), 0);
        x = Kit.kings(5, 3);
        Kit.law(x, "x(t=3)");
        Kit.due("till one LEAVES", x.breaths(240), 4);
    }

    private static void tried() {
        Kit.says("what 0 how many go by, 1 whether they have MET then (1, 0), 2 who has LEFT then (bits), "
                + "10 + k STEPS LEFT, 20 + k OFFENCE, 30 + k the BOW of KING k then; NONE: no such ones.");
        TwoKings x = Kit.kings(30, 20);
        Kit.law(x, "f2(k=0);f1(k=1);d3(k=0);u9(k=1);x(k=1&t=5)");
        Kit.orders(x, "1b9");
        for (int what = -40; what <= 140; what++) {
            boolean known = what >= 0 && what <= 2 || what == 10 || what == 11 || what == 20 || what == 21 || what == 30
                    || what == 31;
            Kit.due("what " + what + " is known", x.tried(1, what) != -1, known);
        }
        Kit.due("what of the greatest", x.tried(1, Integer.MAX_VALUE), -1);
        Kit.due("what of the least", x.tried(1, Integer.MIN_VALUE), -1);
        Kit.due("what of 10 and 2^31", x.tried(1, 10 + Integer.MIN_VALUE), -1);
        int[][] rows = {{1, 1, 0, 0, 28, 19, 9 + 3, 0, 3, 0}, {6, 6, 0, 2, 18, 14, 0, 0, 18, 0}, {240, 6, 0, 2, 18, 14, 0, 0, 18, 0}};
        int offence = 0;
        for (int i = 1; i <= 6; i++) {
            offence += 10 - i + 3 * i;
        }
        rows[1][6] = offence;
        rows[2][6] = offence;
        int[] whats = {0, 1, 2, 10, 11, 20, 21, 30, 31};
        for (int[] row : rows) {
            for (int i = 0; i < whats.length; i++) {
                Kit.due("tried " + row[0] + " " + whats[i], x.tried(row[0], whats[i]), row[i + 1]);
            }
        }
        x = Kit.kings(240, 1);
        Kit.law(x, "f1(1=1)");
        Kit.due("240 go by", x.tried(240, 0), 240);
        Kit.due("239 do not do", x.tried(239, 1), 0);
        Kit.due("240 do", x.tried(240, 1), 1);
        x = new TwoKings();
        Kit.due("MET now: none goes by", x.tried(1, 0), 0);
        Kit.due("MET now", x.tried(1, 1), 1);
    }

    private static void meet() {
        Kit.says("MEET: behind how many of n BREATHS they have MET");
        for (int n = 1; n <= 5; n++) {
            TwoKings near = Kit.kings(3, 2);
            Kit.law(near, "f1(1=1)");
            Kit.due("in " + n, near.meet(n, 0), n < 3 ? -2 : 3);
        }
        Kit.says("what 0 behind how many (0: they have)");
        TwoKings x = new TwoKings();
        Kit.due("they have", x.meet(1, 0), 0);
        Kit.due("they have, of 240", x.meet(240, 0), 0);
        x = Kit.kings(240, 7);
        Kit.law(x, "f1(1=1)");
        Kit.due("behind 240", x.meet(240, 0), 240);
        Kit.says("-2: not in these; NONE: no such ones.");
        Kit.due("not in 239", x.meet(239, 0), -2);
        Kit.due("who, not in 239", x.meet(239, 1), -2);
        x.king(0, 241, false);
        Kit.due("not in 240", x.meet(240, 0), -2);
        Kit.due("who, not in 240", x.meet(240, 1), -2);
        x.king(0, 1, false);
        x.king(1, 1, false);
        Kit.due("behind one", x.meet(1, 0), 1);
        Kit.law(x, "x(k=0)");
        Kit.due("one LEAVES", x.meet(240, 0), -2);
        x.breaths(1);
        Kit.due("one has LEFT", x.meet(240, 0), -2);
        // Who has LEFT may be led on by ORDERS: they have MET all the same.
        Kit.orders(x, "*f1");
        Kit.due("MET behind leaving", x.meet(240, 0), 0);
        for (int what : new int[] {-1, 2, 3, 10, Integer.MAX_VALUE, Integer.MIN_VALUE}) {
            Kit.due("what " + what, x.meet(5, what), -1);
        }
    }

    private static void meetWho() {
        Kit.says("1 who had none LEFT first (0, 1, 2; they have MET now: 2)");
        int[][] kings = {{0, 0, 2}, {0, 5, 0}, {5, 0, 1}, {5, 5, 2}, {4, 5, 0}, {5, 4, 1}, {1, 9, 0}, {9, 1, 1}, {8, 9, 0}};
        for (int[] one : kings) {
            TwoKings x = Kit.kings(one[0], one[1]);
            Kit.law(x, "f1(1=1)");
            Kit.due("who of " + one[0] + " and " + one[1], x.meet(9, 1), one[2]);
            Kit.due("behind how many", x.meet(9, 0), Math.max(one[0], one[1]));
        }
        Kit.says("who had no STEPS LEFT first (both at once: 2).");
        TwoKings x = Kit.kings(9, 9);
        Kit.law(x, "f9(1=1)");
        Kit.due("both at once", x.meet(1, 1), 2);
        // He who was there first, though the other one had fewer STEPS LEFT for a long time.
        x = Kit.kings(9, 2);
        Kit.law(x, "f9(k=0);f1(k=1&t>0)");
        Kit.due("the farther one was first", x.meet(9, 1), 0);
        Kit.due("behind how many", x.meet(9, 0), 3);
        x = Kit.kings(3, 5);
        Kit.law(x, "f1(1=1)");
        x.breaths(5);
        Kit.due("MET now, one behind the other", x.meet(9, 1), 2);
    }

    private static void leaves() {
        Kit.says("LEAVES: who LEAVES first in n BREATHS (both: 2), behind how many.");
        TwoKings one = Kit.kings(99, 99);
        Kit.law(one, "x(k=1&t=4);x(k=0&t=5)");
        Kit.due("the first of them", one.leaves(240, 0), 1);
        Kit.due("behind how many the first of them", one.leaves(240, 1), 5);
        Kit.law(one, "x(k=1&t=4);x(k=0&t=4)");
        Kit.due("both", one.leaves(240, 0), 2);
        Kit.due("behind how many both", one.leaves(240, 1), 5);
        Kit.says("what 0 who (0, 1, 2), 1 behind how many (0: one has); -2: nobody; NONE: no such ones.");
        String[] laws = {"x(k=0&t=?)", "x(k=1&t=?)", "x(t=?)"};
        for (int who = 0; who <= 2; who++) {
            for (int last : new int[] {1, 2, 77, 100}) {
                TwoKings x = Kit.kings(999, 999);
                Kit.law(x, laws[who].replace("?", "" + (last - 1)));
                Kit.due("who in " + last, x.leaves(last, 0), who);
                Kit.due("behind how many in " + last, x.leaves(last, 1), last);
                Kit.due("who in 240", x.leaves(240, 0), who);
                Kit.due("behind how many in 240", x.leaves(240, 1), last);
                if (last > 1) {
                    Kit.due("nobody in one less", x.leaves(last - 1, 0), -2);
                    Kit.due("behind none in one less", x.leaves(last - 1, 1), -2);
                }
                x.breaths(last);
                Kit.due("one has: who", x.leaves(1, 0), who);
                Kit.due("one has: behind how many", x.leaves(1, 1), 0);
                Kit.due("one has: who of 240", x.leaves(240, 0), who);
            }
        }
        TwoKings x = Kit.kings(999, 999);
        Kit.law(x, "f1(1=1);x(p=760)");
        Kit.due("behind 240", x.leaves(240, 1), 240);
        Kit.due("not in 239", x.leaves(239, 1), -2);
        Kit.law(x, "f1(1=1);x(p=759)");
        Kit.due("not in 240", x.leaves(240, 1), -2);
        // Both have at different times: no BREATH goes by then, so it can't be but by a KING anew.
        x = Kit.kings(2, 2);
        Kit.law(x, "f1(1=1);x(t=2)");
        Kit.due("MET before", x.leaves(240, 0), -2);
        Kit.due("MET before, behind", x.leaves(240, 1), -2);
        for (int what : new int[] {-1, 2, 3, 10, Integer.MAX_VALUE, Integer.MIN_VALUE}) {
            Kit.due("what " + what, x.leaves(5, what), -1);
        }
    }

    private static void worst() {
        Kit.says("WORST: the greatest difference of STEPS LEFT at the end of a BREATH in n of these (now, too).");
        TwoKings x = Kit.kings(20, 12);
        Kit.law(x, "f9(k=0&t=0);f5(k=1&t=1);f9(k=1&t=2)");
        // 8 now; 11 and 12; 11 and 7; 11 and 0.
        Kit.due("now", x.worst(1), 8);
        Kit.due("in 2", x.worst(2), 8);
        Kit.due("in 3", x.worst(3), 11);
        Kit.due("in 240", x.worst(240), 11);
        x.breaths(1);
        Kit.due("1 now, then 4", x.worst(1), 4);
        Kit.due("when they have MET", new TwoKings().worst(1), 0);
        x = Kit.kings(0, 999);
        Kit.due("the greatest", x.worst(1), 999);
        x = Kit.kings(999, 0);
        Kit.due("the greatest the other way", x.worst(240), 999);
        x = Kit.kings(999, 999);
        Kit.law(x, "f1(k=1&p>759)");
        Kit.due("at the end of the 240th", x.worst(240), 240);
        Kit.due("at the end of the 239th", x.worst(239), 239);
        Kit.law(x, "x(1=1)");
        Kit.orders(x, "0f30");
        x.breaths(1);
        Kit.due("when one has LEFT", x.worst(5), 30);
    }

    private static void nearer() {
        Kit.says("what 0 KING 0, 1 KING 1, 2 both, 3, 4 in how many the OFFENCE of KING 0, 1 grew; NONE: no such ones.");
        TwoKings x = Kit.kings(12, 10);
        x.tolerance(1, 0);
        Kit.law(x, "f2(k=0);f1(k=1);h(k=1&t=7)");
        // 10, 9; 8, 8; 6, 7; 4, 6; 2, 5; 0, 4; 0, 3; 0, 2; 0, 1; 0, 0.
        int[] want = {7, 1, 2, 0, 5};
        for (int what = 0; what <= 4; what++) {
            Kit.due("nearer " + what, x.nearer(240, what), want[what]);
        }
        int[][] rows = {{1, 0, 1, 0, 0, 0}, {2, 0, 1, 1, 0, 0}, {3, 1, 1, 1, 0, 0}, {4, 2, 1, 1, 0, 1}, {10, 7, 1, 2, 0, 5}};
        for (int[] row : rows) {
            for (int what = 0; what <= 4; what++) {
                Kit.due("nearer " + what + " of " + row[0], x.nearer(row[0], what), row[1 + what]);
            }
        }
        for (int what : new int[] {-1, 5, 6, 10, Integer.MAX_VALUE, Integer.MIN_VALUE}) {
            Kit.due("what " + what, x.nearer(5, what), -1);
        }
        Kit.says("NEARER: at the end of how many of n BREATHS (of those that go by) KING 0 had fewer STEPS LEFT, "
                + "KING 1 had, both as many");
        int[][] nearerNow = {{10, 20, 0}, {20, 10, 1}, {10, 10, 2}, {10, 11, 0}, {11, 10, 1}};
        for (int[] now : nearerNow) {
            x = Kit.kings(now[0], now[1]);
            for (int what = 0; what <= 2; what++) {
                Kit.due("nearer " + what + " of " + now[0] + " and " + now[1], x.nearer(7, what), what == now[2] ? 7 : 0);
            }
        }
        x = Kit.kings(12, 10);
        Kit.law(x, "f3(k=0&t=0)");
        Kit.due("at the end, not at the beginning", x.nearer(1, 0), 1);
        Kit.due("KING 1 had fewer at the beginning alone", x.nearer(1, 1), 0);
        Kit.due("when they have MET", new TwoKings().nearer(9, 2), 0);
        x = Kit.kings(5, 4);
        Kit.law(x, "x(t=2)");
        Kit.due("till both LEAVE", x.nearer(9, 1), 3);
        Kit.due("OFFENCE till both LEAVE", x.nearer(9, 3), 3);
        x.breaths(9);
        Kit.due("when they have LEFT", x.nearer(9, 1), 0);
        x = Kit.kings(999, 999);
        Kit.due("as many in all of 240", x.nearer(240, 2), 240);
        Kit.says("in how many of them one's OFFENCE grew");
        for (int k = 0; k <= 1; k++) {
            for (int start = 9997; start <= 9999; start++) {
                x = offended(k, start);
                Kit.orders(x, k + "o");
                Kit.due("up to the greatest from " + start, x.nearer(240, 3 + k), 9999 - start);
                Kit.due("the other one's", x.nearer(240, 4 - k), 0);
            }
        }
    }

    private static void nothingIsChanged() {
        Kit.says("TRIED are n BREATHS by the DRAWS that will come (nothing is changed).");
        TwoKings x = Kit.kings(70, 60);
        Kit.law(x, "fr/2(1=1);d3(r>5);u2(r<3);h(r=4);x(t=30)");
        x.breaths(2);
        x.keep();
        x.breaths(3);
        Kit.zeros(x, 1);
        String before = Kit.picture(x);
        int steps = x.tried(4, 10);
        int offence = x.tried(4, 21);
        int bow = x.tried(4, 30);
        x.meet(240, 0);
        x.meet(240, 1);
        x.leaves(240, 0);
        x.leaves(240, 1);
        x.worst(240);
        for (int what = 0; what <= 4; what++) {
            x.nearer(240, what);
        }
        Kit.due("nothing is changed", Kit.picture(x), before);
        Kit.due("BREATHS", x.breaths(4), 4);
        Kit.due("STEPS as they were tried", x.kingIs(0, 0), steps);
        Kit.due("OFFENCE as it was tried", x.kingIs(1, 2), offence);
        Kit.due("the BOW as it was tried", x.kingIs(0, 1), bow);
        Kit.due("undo", x.undo(), true);
        Kit.due("what was KEPT is not changed", x.count(0), 2);
    }
}
