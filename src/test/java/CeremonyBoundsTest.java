import java.util.Arrays;

/** The bounds of lanes, copies, titles, gifts, cushions, tables, drums, tents, stairs and heralds: promises 17 to 26. */
public final class CeremonyBoundsTest {
    private static final int BIG = Integer.MAX_VALUE;
    private static final int SMALL = Integer.MIN_VALUE;
    private static TwoKings used = new TwoKings();
    private static int uses = 0;

    public static void main(String[] args) {
        laneFaults();
        laneThatCannotBe();
        laneWithoutMoves();
        laneMoves();
        laneLength();
        signing();
        signingAtOneTime();
        signingWho();
        titles();
        titleOfZero();
        titlesInOrder();
        titlesAtOnce();
        gifts();
        cushions();
        cushionsAlike();
        cushionOfZero();
        cushionsThatCannot();
        cushionsOfLikeOnes();
        table();
        tableInNoWay();
        tableRound();
        drums();
        drumsNever();
        tent();
        tentOfLikeOnes();
        stairs();
        stairWays();
        stairSteps();
        heralds();
        Kit.end();
    }

    /** Mostly one that has been used: what earlier calls left behind must not matter. */
    private static TwoKings some() {
        uses++;
        if (uses % 15 == 0) {
            used = new TwoKings();
        }
        return used;
    }

    // ---- A LANE

    private static int lane(String row, int what) {
        TwoKings x = some();
        Kit.text(x, row);
        int answer = x.lane(row.length(), what);
        Kit.due("the tape behind lane " + row, x.count(5), 0);
        return answer;
    }

    private static void dueLane(String row, int moves, int place) {
        Kit.due("moves of " + row, lane(row, 0), moves);
        Kit.due("place of " + row, lane(row, 1), place);
    }

    private static void laneFaults() {
        Kit.says("a FAULT (1: neither > nor < nor a dot)");
        for (int n = 2; n <= 9; n++) {
            for (int place = 0; place < n; place++) {
                for (int b = 0; b <= 255; b++) {
                    if (n == 2 || n == 9 || b == 'x' || b == '=' || b == ';') {
                        StringBuilder row = new StringBuilder("<..<..>.>".substring(0, n));
                        row.setCharAt(place, (char) b);
                        boolean fine = "<>.".indexOf(b) >= 0;
                        Kit.due("a FAULT of " + row, lane(row.toString(), place % 2) <= -1000, !fine);
                        if (!fine) {
                            Kit.due("its place in " + row, lane(row.toString(), 0), -1000 - place);
                            Kit.due("its place in " + row + ", what 1", lane(row.toString(), 1), -1000 - place);
                        }
                    }
                }
            }
        }
        // The first from the left, and before it is asked whether it can be.
        dueLane("><x>y", -1002, -1002);
        dueLane("x>", -1000, -1000);
        dueLane("> <", -1001, -1001);
    }

    private static void laneThatCannotBe() {
        Kit.says("-2: it can't be");
        for (String row : new String[] {"><", ">><<", "><<.", ".>><", ">>><<<", ">>>>><<<<", "<><>"}) {
            dueLane(row, -2, -2);
        }
    }

    private static void laneWithoutMoves() {
        Kit.says("what 0 moves, 1 the place (no move: -4)");
        for (String row : new String[] {"..", "<>", ">>", "<<", ".>", ">.", ".<", "<.", "<.>", "<<>>", "<<<<>>>>>", ".........",
            ">>>>>>>>>", "<<<<<<<<<", "<........", "........>", ".<<<<<<<<", ">>>>>>>>."}) {
            dueLane(row, 0, -4);
        }
    }

    private static void laneMoves() {
        Kit.says("> (62: a mule that goes to the right), < (60: to the left), dots (46: free)");
        Kit.due("the bytes", lane("" + (char) 62 + (char) 60 + (char) 46, 0), 1);
        // Neither goes back, however free it is there.
        dueLane(".>><", -2, -2);
        dueLane("><<.", -2, -2);
        dueLane("..>><", -2, -2);
        Kit.says("the fewest moves till no mule that goes to the right has one that goes to the left to its right");
        dueLane("<.><", 1, 3);
        dueLane("<.><>", 1, 3);
        dueLane("><.><.", 4, 0);
        // Far from each other, but one has the other one to its right.
        dueLane(">......<", 7, 0);
        dueLane("<......>", 0, -4);
        Kit.says("a mule goes one place on if that is free, or over one mule that goes the other way "
                + "if the place behind it is free");
        dueLane("><.", 1, 0);
        dueLane(".><", 1, 2);
        dueLane(">.<", 2, 0);
        dueLane(">..<", 3, 0);
        // Not over two, and not over one that goes the same way.
        dueLane("><<.", -2, -2);
        dueLane(">><.", 3, 1);
        dueLane("><.<", 3, 0);
        dueLane(">>.<", 4, 1);
        dueLane("><>.", 2, 2);
        dueLane(".<><", 2, 1);
        dueLane("><>>.", 3, 3);
        dueLane(".<<><", 3, 1);
        dueLane(">>..<", 5, 1);
        dueLane(">..<<", 5, 0);
        Kit.says("the place of the mule that moves first (the lowest of those that do as well).");
        dueLane(".><.", 1, 1);
        dueLane("..><..", 1, 2);
        dueLane(".><...><.", 4, 1);
        dueLane("<.><.>", 1, 2);
        // Eight till they have changed places; the last one of these is not needed.
        dueLane(">>.<<", 7, 1);
    }

    private static void laneLength() {
        Kit.says("A LANE: a row of 2 to 9 places");
        dueLane("><", -2, -2);
        dueLane("<>", 0, -4);
        dueLane(">.......<", 8, 0);
        dueLane(">>>>.<<<<", 23, 3);
        dueLane("......><.", 1, 6);
        dueLane(".......><", 1, 8);
    }

    // ---- SIGNING

    private static void dueSigning(int time, int who, int... minutes) {
        TwoKings x = some();
        String name = "signing " + Arrays.toString(minutes);
        Kit.bytes(x, minutes);
        Kit.due(name, x.signing(minutes.length / 2, 0), time);
        Kit.due(name + ": the tape", x.count(5), 0);
        Kit.bytes(x, minutes);
        Kit.due(name + " who", x.signing(minutes.length / 2, 1), who);
        Kit.due(name + ": the tape, too", x.count(5), 0);
    }

    private static void signing() {
        Kit.says("1 to 12 copies, each signed by both, in so many minutes (0 to 255 each)");
        dueSigning(0, 0, 0, 0);
        dueSigning(510, 2, 255, 255);
        dueSigning(255, 0, 255, 0);
        dueSigning(255, 1, 0, 255);
        dueSigning(256, 2, 128, 128);
        for (int n = 1; n <= 12; n++) {
            int[] minutes = new int[2 * n];
            Arrays.fill(minutes, 255);
            dueSigning(n == 1 ? 510 : 255 * n, n == 1 ? 2 : 0, minutes);
            // All that the last copy takes is looked at.
            int[] last = new int[2 * n];
            last[2 * n - 1] = 200;
            last[2 * n - 2] = 7;
            dueSigning(207, 2, last);
        }
    }

    private static void signingAtOneTime() {
        Kit.says("one copy by one at a time, each signs one at a time, in any order: the least time");
        // All of one KING's work, all of the other one's, or one copy by both: none can take less.
        dueSigning(10, 0, 3, 4, 2, 3, 5, 1);
        dueSigning(11, 1, 3, 4, 2, 5, 5, 2);
        dueSigning(12, 2, 6, 6, 2, 3, 1, 1);
        // No copy waits for another one, whichever comes first.
        dueSigning(9, 0, 1, 8, 8, 1);
        dueSigning(9, 0, 8, 1, 1, 8);
        dueSigning(9, 0, 4, 4, 4, 4, 1, 1);
    }

    private static void signingWho() {
        Kit.says("whose work it is that takes so long (0, 1; one copy's: 2; of like ones the lowest)");
        dueSigning(6, 0, 3, 3, 3, 3);
        dueSigning(6, 0, 6, 0, 0, 6);
        dueSigning(6, 0, 4, 2, 2, 2);
        dueSigning(6, 1, 2, 4, 2, 2);
        dueSigning(6, 0, 4, 2, 2, 4);
        dueSigning(7, 2, 3, 4, 1, 1);
        dueSigning(7, 0, 5, 2, 2, 0);
        dueSigning(7, 1, 2, 5, 0, 2);
        dueSigning(8, 1, 1, 4, 1, 4);
        dueSigning(8, 0, 4, 1, 4, 1);
        dueSigning(18, 2, 9, 9, 1, 1);
    }

    // ---- TITLES

    private static void dueTitles(int breaths, int atOnce, int[] first, int[] other) {
        int[] bytes = Arrays.copyOf(first, first.length + other.length);
        System.arraycopy(other, 0, bytes, first.length, other.length);
        String name = "titles " + Arrays.toString(first) + " " + Arrays.toString(other);
        TwoKings x = some();
        Kit.bytes(x, bytes);
        Kit.due(name, x.titles(first.length, other.length, 0), breaths);
        Kit.due(name + ": the tape", x.count(5), 0);
        Kit.bytes(x, bytes);
        Kit.due(name + " at once", x.titles(first.length, other.length, 1), atOnce);
        Kit.due(name + ": the tape, too", x.count(5), 0);
    }

    private static int[] row(int n, int value) {
        int[] row = new int[n];
        Arrays.fill(row, value);
        return row;
    }

    private static void titles() {
        Kit.says("two heralds read rows of 1 to 10 titles, each of so many breaths (1 to 20)");
        for (int n = 1; n <= 10; n++) {
            for (int m = 1; m <= 10; m++) {
                dueTitles(20 * Math.max(n, m), Math.min(n, m), row(n, 20), row(m, 20));
                dueTitles(Math.max(n, m), Math.min(n, m), row(n, 1), row(m, 1));
            }
        }
        dueTitles(20, 1, row(1, 1), row(1, 20));
        dueTitles(20, 1, row(1, 20), row(1, 1));
    }

    private static void titleOfZero() {
        Kit.says("-2: a title of 0, above 20");
        int[][] sizes = {{1, 1}, {1, 10}, {10, 1}, {10, 10}, {3, 2}};
        for (int[] size : sizes) {
            for (int place = 0; place < size[0] + size[1]; place++) {
                for (int value : new int[] {0, 1, 20, 21, 128, 255}) {
                    int[] first = row(size[0], 5);
                    int[] other = row(size[1], 5);
                    if (place < size[0]) {
                        first[place] = value;
                    } else {
                        other[place - size[0]] = value;
                    }
                    boolean fine = value >= 1 && value <= 20;
                    TwoKings x = new TwoKings();
                    int[] bytes = Arrays.copyOf(first, size[0] + size[1]);
                    System.arraycopy(other, 0, bytes, size[0], size[1]);
                    for (int what = 0; what <= 1; what++) {
                        Kit.bytes(x, bytes);
                        Kit.due("a title of " + value + " at " + place + " of " + size[0] + " and " + size[1],
                                x.titles(size[0], size[1], what) != -2, fine);
                        Kit.due("the tape is empty then", x.count(5), 0);
                    }
                }
            }
        }
    }

    private static void titlesInOrder() {
        Kit.says("some are read at once, in order, the shorter one waits; others alone (the other herald waits)");
        // The long ones can't be read at once: another order would do with 22.
        dueTitles(22, 1, new int[] {1, 20}, new int[] {20, 1});
        dueTitles(21, 2, new int[] {1, 20}, new int[] {1, 20});
        // One alone ahead, between, behind.
        dueTitles(27, 2, new int[] {7, 9, 11}, new int[] {9, 11});
        dueTitles(27, 2, new int[] {9, 7, 11}, new int[] {9, 11});
        dueTitles(27, 2, new int[] {9, 11, 7}, new int[] {9, 11});
        dueTitles(27, 2, new int[] {9, 11}, new int[] {9, 11, 7});
        // The shorter one waits: its rest is not used by the next one.
        dueTitles(20, 1, new int[] {5, 5}, new int[] {15});
    }

    private static void titlesAtOnce() {
        Kit.says("the least breaths till both have read all; how many are read at once at most by that.");
        dueTitles(4, 2, new int[] {1, 2}, new int[] {2, 1});
        dueTitles(22, 1, new int[] {1, 20}, new int[] {20, 1});
        dueTitles(6, 1, new int[] {2, 2}, new int[] {4});
        dueTitles(9, 2, new int[] {2, 3, 4}, new int[] {3, 2});
        dueTitles(12, 3, new int[] {4, 4, 4}, new int[] {1, 1, 1});
    }

    // ---- GIFTS

    private static void dueGifts(int greatest, int sum, int... worth) {
        TwoKings x = some();
        String name = "gifts " + Arrays.toString(worth);
        Kit.bytes(x, worth);
        Kit.due(name, x.gifts(worth.length / 2, 0), greatest);
        Kit.due(name + ": the tape", x.count(5), 0);
        Kit.bytes(x, worth);
        Kit.due(name + " sum", x.gifts(worth.length / 2, 1), sum);
        Kit.due(name + ": the tape, too", x.count(5), 0);
    }

    private static void gifts() {
        Kit.says("GIFTS: 1 to 8 of each KING's, of so much worth (0 to 255)");
        dueGifts(0, 0, 0, 0);
        dueGifts(255, 255, 0, 255);
        dueGifts(255, 255, 255, 0);
        dueGifts(0, 0, 255, 255);
        dueGifts(127, 127, 128, 255);
        for (int n = 1; n <= 8; n++) {
            int[] worth = new int[2 * n];
            Arrays.fill(worth, n, 2 * n, 255);
            dueGifts(255, 255 * n, worth);
            // The same worths in another order: each finds his own.
            for (int i = 0; i < n; i++) {
                worth[i] = 30 * i;
                worth[n + i] = 30 * (n - 1 - i);
            }
            dueGifts(0, 0, worth);
            worth[2 * n - 1] = 7;
            dueGifts(7, 7, worth);
        }
        Kit.says("each opened with one of the other's");
        // One that would fit two is opened with one alone.
        dueGifts(9, 9, 10, 19, 10, 10);
        dueGifts(8, 16, 2, 2, 10, 10);
        Kit.says("so that the greatest difference is least; that; the least sum of all differences by which it is so.");
        dueGifts(5, 10, 0, 5, 5, 10);
        dueGifts(10, 12, 0, 9, 10, 11);
    }

    // ---- CUSHIONS

    private static void dueCushions(int first, int second, int[] want, int... heights) {
        for (int what = 0; what <= 2; what++) {
            TwoKings x = some();
            Kit.bytes(x, heights);
            String name = "cushions " + Arrays.toString(heights) + " " + first + " " + second + " what " + what;
            Kit.due(name, x.cushions(heights.length, first, second, what), want[what]);
            Kit.due(name + ": the tape", x.count(5), 0);
        }
    }

    private static void cushions() {
        Kit.says("CUSHIONS: 1 to 8 (1 to 30 high): some under the one, some under the other "
                + "(who sit 0 to 99 high without)");
        dueCushions(0, 0, new int[] {0, 0, 0}, 1);
        dueCushions(0, 0, new int[] {0, 0, 0}, 30);
        dueCushions(0, 1, new int[] {1, 1, 0}, 1);
        dueCushions(1, 0, new int[] {1, 0, 1}, 1);
        dueCushions(99, 99, new int[] {99, 0, 0}, 30);
        dueCushions(69, 99, new int[] {99, 1, 0}, 30);
        dueCushions(99, 69, new int[] {99, 0, 1}, 30);
        dueCushions(0, 99, new int[] {99, 15, 0}, 30, 30, 30, 9);
        dueCushions(99, 0, new int[] {99, 0, 15}, 30, 30, 30, 9);
        for (int n = 1; n <= 8; n++) {
            int half = n / 2;
            int low = (1 << half) - 1;
            dueCushions(99, 99, new int[] {99 + 30 * half, low, low << half}, row(n, 30));
            // The last one of them alone makes them alike.
            int[] heights = row(n, 30);
            heights[n - 1] = 7;
            dueCushions(0, 7, new int[] {7 + 30 * ((n - 1) / 2), (1 << (n - 1) / 2) - 1 | 1 << n - 1,
                (1 << (n - 1) / 2) - 1 << (n - 1) / 2}, heights);
        }
    }

    private static void cushionsAlike() {
        Kit.says("so that both sit alike");
        for (int first = 0; first <= 40; first++) {
            int apart = Math.abs(first - 20);
            // One cushion of 5 and one of 9: alike by none, by one of them, or by both (4 and 14 apart).
            boolean can = apart == 0 || apart == 5 || apart == 9 || apart == 4 || apart == 14;
            TwoKings x = new TwoKings();
            Kit.bytes(x, 5, 9);
            int high = x.cushions(2, first, 20, 0);
            Kit.due("alike from " + first, high != -2, can);
            Kit.bytes(x, 5, 9);
            int under = x.cushions(2, first, 20, 1);
            Kit.bytes(x, 5, 9);
            int other = x.cushions(2, first, 20, 2);
            if (can) {
                Kit.due("the first one from " + first, first + 5 * (under & 1) + 9 * (under >> 1), high);
                Kit.due("the second one from 20", 20 + 5 * (other & 1) + 9 * (other >> 1), high);
                Kit.due("no cushion under both", under & other, 0);
            }
        }
    }

    private static void cushionOfZero() {
        Kit.says("-3: one of 0, above 30");
        for (int n = 1; n <= 8; n++) {
            for (int place = 0; place < n; place++) {
                for (int value : new int[] {0, 1, 30, 31, 128, 255}) {
                    int[] heights = row(n, 5);
                    heights[place] = value;
                    boolean fine = value >= 1 && value <= 30;
                    TwoKings x = new TwoKings();
                    for (int what = 0; what <= 2; what++) {
                        Kit.bytes(x, heights);
                        Kit.due("one of " + value + " at " + place + " of " + n, x.cushions(n, 5, 5, what) != -3, fine);
                        Kit.due("the tape is empty then", x.count(5), 0);
                    }
                }
            }
        }
        // That is asked first: they could not, either.
        dueCushions(0, 99, new int[] {-3, -3, -3}, 31);
        dueCushions(0, 99, new int[] {-3, -3, -3}, 1, 0);
    }

    private static void cushionsThatCannot() {
        Kit.says("-2: they can't");
        dueCushions(0, 1, new int[] {-2, -2, -2}, 2);
        dueCushions(1, 0, new int[] {-2, -2, -2}, 2);
        dueCushions(0, 99, new int[] {-2, -2, -2}, 30, 30, 30);
        dueCushions(0, 99, new int[] {-2, -2, -2}, 30, 30, 30, 10);
        dueCushions(0, 3, new int[] {-2, -2, -2}, 2, 2, 2, 2, 2, 2, 2, 2);
    }

    private static void cushionsOfLikeOnes() {
        Kit.says("as high as can be; how high; which under the first one (bits; of like ones the least), "
                + "which under the second one.");
        dueCushions(0, 0, new int[] {1, 1, 2}, 1, 1);
        dueCushions(0, 0, new int[] {1, 1, 2}, 1, 1, 1);
        dueCushions(0, 0, new int[] {2, 3, 12}, 1, 1, 1, 1);
        dueCushions(0, 0, new int[] {3, 3, 4}, 1, 2, 3);
        dueCushions(0, 0, new int[] {3, 1, 6}, 3, 2, 1);
        dueCushions(0, 0, new int[] {5, 2, 5}, 3, 5, 2);
        dueCushions(0, 1, new int[] {2, 3, 4}, 1, 1, 1);
        // As high as can be, though less would do with fewer.
        dueCushions(7, 7, new int[] {37, 1, 2}, 30, 30, 1);
        // Of the second one the least, too, where several would do.
        dueCushions(0, 0, new int[] {2, 1, 6}, 2, 1, 1, 1);
    }

    // ---- A TABLE

    private static void dueTable(int ways, int fewest, int[] least, int... mustNot) {
        int n = mustNot.length;
        TwoKings x = some();
        String name = "table " + Arrays.toString(mustNot) + " ";
        Kit.bytes(x, mustNot);
        Kit.due(name + 100, x.table(n, 100), ways);
        Kit.due(name + "100: the tape", x.count(5), 0);
        Kit.bytes(x, mustNot);
        Kit.due(name + 101, x.table(n, 101), fewest);
        Kit.due(name + "101: the tape", x.count(5), 0);
        for (int i = 0; i < n; i++) {
            Kit.bytes(x, mustNot);
            Kit.due(name + i, x.table(n, i), ways == 0 ? -2 : least[i]);
            Kit.due(name + i + ": the tape", x.count(5), 0);
        }
        Kit.bytes(x, mustNot);
        Kit.due(name + n, x.table(n, n), -1);
        Kit.due(name + n + ": the tape stays", x.count(5), 20);
        Kit.due(name + ": the tape for the next", x.table(n, 100), ways);
    }

    private static void table() {
        Kit.says("A TABLE: round, 2 to 6 of each side in turn");
        int[] ways = {0, 0, 2, 6, 24, 120, 720};
        for (int n = 2; n <= 6; n++) {
            int[] row = new int[n];
            for (int i = 0; i < n; i++) {
                row[i] = i;
            }
            dueTable(ways[n], 0, row, row(n, 0));
            // Bits of nobody: they are not KING 0's.
            dueTable(ways[n], 0, row, row(n, 255 << n & 255));
            dueTable(0, n, row, row(n, (1 << n) - 1));
            dueTable(0, n, row, row(n, 255));
        }
    }

    private static void tableInNoWay() {
        Kit.says("-2 (of 0 to n - 1): in no way");
        dueTable(0, 1, null, 1, 0);
        dueTable(0, 1, null, 0, 2);
        dueTable(0, 2, null, 3, 1);
        dueTable(0, 2, null, 1, 1, 1);
        dueTable(0, 1, null, 7, 0, 0);
        dueTable(0, 1, null, 0, 0, 0, 0, 0, 63);
    }

    private static void tableRound() {
        Kit.says("KING 0's sit still, one after the other (0 on)");
        // Each of KING 1's may sit behind one alone: he must not sit beside all others but that one and the next.
        for (int n = 3; n <= 6; n++) {
            int[] mustNot = new int[n];
            int[] row = new int[n];
            for (int i = 0; i < n; i++) {
                mustNot[i] = (1 << n) - 1 & ~(1 << i | 1 << (i + 1) % n);
                row[i] = i;
            }
            dueTable(1, 0, row, mustNot);
        }
        Kit.says("one of KING 1's sits between each and the next (the last and the first, too)");
        dueTable(1, 0, new int[] {0, 1, 2}, 4, 1, 2);
        dueTable(1, 0, new int[] {2, 0, 1}, 1, 2, 4);
        // Two who must sit between the last and the first.
        dueTable(0, 1, null, 2, 2, 0);
        dueTable(2, 0, new int[] {0, 1, 2}, 0, 0, 2);
        Kit.says("else who sits behind KING 0's what (0 to n - 1) in the least row");
        dueTable(2, 0, new int[] {0, 2, 1}, 0, 0, 1);
        dueTable(2, 0, new int[] {2, 0, 1}, 0, 0, 4);
        dueTable(1, 0, new int[] {5, 4, 3, 2, 1, 0}, 30, 15, 39, 51, 57, 60);
        Kit.says("each of these has some (bits) beside whom he must not sit: in how many ways nobody must not; the least row; "
                + "the fewest that sit beside one whom they must not, in any way.");
        // Of four the third must not sit beside 0 and 1: he sits behind 2 alone, the others as they like.
        dueTable(6, 0, new int[] {0, 1, 2, 3}, 0, 0, 3, 0);
        // The fourth, too: one of the two sits so.
        dueTable(0, 1, null, 0, 0, 3, 3);
        Kit.says("101 the fewest that sit so");
        dueTable(0, 1, null, 0, 7, 0);
        dueTable(0, 2, null, 7, 0, 7);
        dueTable(0, 3, null, 15, 15, 0, 15);
        dueTable(0, 5, null, 63, 63, 63, 63, 63, 0);
    }

    // ---- DRUMS

    private static void dueDrums(int want, int first, int each, int otherFirst, int otherEach) {
        String name = "drums " + first + " " + each + " " + otherFirst + " " + otherEach;
        Kit.due(name, new TwoKings().drums(first, each, otherFirst, otherEach), want);
        Kit.due(name + " the other way round", new TwoKings().drums(otherFirst, otherEach, first, each), want);
    }

    private static void drums() {
        Kit.says("DRUMS: first beats (0 to 999), how many beats between (1 to 1000): the beat; -2: never; NONE: no such ones.");
        for (int first : new int[] {-1, 1000, -1000, BIG, SMALL}) {
            dueDrums(-1, first, 1, 0, 1);
            dueDrums(-1, first, 1000, 999, 1000);
        }
        for (int each : new int[] {0, 1001, -1, BIG, SMALL}) {
            dueDrums(-1, 0, each, 0, 1);
            dueDrums(-1, 999, each, 999, 1000);
        }
        dueDrums(0, 0, 1, 0, 1);
        dueDrums(999, 999, 1, 0, 1);
        dueDrums(999, 999, 1000, 999, 1000);
        dueDrums(999, 0, 1, 999, 1000);
        dueDrums(0, 0, 1000, 0, 1000);
        Kit.says("one falls at a beat and each so many beats behind it (1 to 1000), the other one likewise");
        dueDrums(7, 7, 1000, 0, 7);
        dueDrums(7, 7, 1000, 1, 2);
        dueDrums(1007, 7, 1000, 8, 999);
        dueDrums(2007, 7, 1000, 9, 999);
        Kit.says("the first beat at which both fall.");
        dueDrums(10, 0, 5, 10, 5);
        dueDrums(10, 0, 1, 10, 1000);
        dueDrums(11, 1, 5, 3, 4);
        dueDrums(1000, 0, 1000, 1, 999);
        dueDrums(1998, 0, 999, 998, 1000);
        // The latest that can be: two numbers with no divisor in common, one beat off.
        dueDrums(998001, 0, 999, 1, 1000);
        dueDrums(998001 + 998, 998, 999, 999, 1000);
    }

    private static void drumsNever() {
        Kit.says("the beat; -2: never");
        dueDrums(-2, 0, 2, 1, 2);
        dueDrums(-2, 998, 2, 999, 2);
        dueDrums(-2, 0, 1000, 1, 1000);
        dueDrums(-2, 0, 1000, 999, 1000);
        dueDrums(-2, 0, 1000, 999, 998);
        dueDrums(-2, 5, 10, 0, 4);
        dueDrums(-2, 0, 5, 12, 5);
    }

    // ---- A TENT

    private static void dueTent(int cut, int unlike, int... breadths) {
        TwoKings x = some();
        String name = "tent " + Arrays.toString(breadths);
        Kit.bytes(x, breadths);
        Kit.due(name, x.tent(breadths.length, 0), cut);
        Kit.due(name + ": the tape", x.count(5), 0);
        Kit.bytes(x, breadths);
        Kit.due(name + " unlike", x.tent(breadths.length, 1), unlike);
        Kit.due(name + ": the tape, too", x.count(5), 0);
    }

    private static void tent() {
        Kit.says("A TENT of 2 to 20 breadths (0 to 255 each)");
        dueTent(1, 0, 0, 0);
        dueTent(1, 255, 0, 255);
        dueTent(1, 255, 255, 0);
        dueTent(1, 0, 255, 255);
        dueTent(1, 127, 128, 255);
        for (int n = 2; n <= 20; n++) {
            dueTent(n / 2, n % 2 == 0 ? 0 : 255, row(n, 255));
            // All of the weight at one end: as near to it as can be.
            int[] last = row(n, 1);
            last[n - 1] = 255;
            dueTent(n - 1, 255 - (n - 1), last);
            int[] first = row(n, 1);
            first[0] = 255;
            dueTent(1, 255 - (n - 1), first);
        }
    }

    private static void tentOfLikeOnes() {
        Kit.says("cut behind a breadth");
        // Never ahead of the first, never behind the last, however heavy these are.
        dueTent(1, 200, 200, 0, 0);
        dueTent(1, 253, 255, 1, 1);
        dueTent(2, 253, 1, 1, 255);
        Kit.says("so that both halves are as alike as can be (of like ones the first cut)");
        dueTent(1, 2, 1, 2, 1);
        dueTent(1, 7, 0, 0, 7);
        dueTent(1, 7, 7, 0, 0);
        dueTent(1, 0, 5, 0, 0, 5);
        dueTent(2, 0, 1, 1, 2);
        dueTent(3, 6, 1, 1, 1, 9);
        dueTent(1, 0, row(20, 0));
    }

    // ---- STAIRS and HERALDS

    private static void stairs() {
        Kit.says("STAIRS n (1 to 40) by one, two or k (3 to 5) at a time, in so many steps (1 to 40; 0: in any): ways; "
                + "NONE: no such ones.");
        TwoKings x = new TwoKings();
        for (int n : new int[] {0, 41, -1, -40, 42, BIG, SMALL}) {
            Kit.due("stairs " + n, x.stairs(n, 3, 0), -1);
            Kit.due("stairs " + n + " in 1", x.stairs(n, 5, 1), -1);
        }
        for (int k : new int[] {2, 6, 0, 1, -1, BIG, SMALL}) {
            Kit.due("by " + k, x.stairs(1, k, 0), -1);
            Kit.due("by " + k + " in 40", x.stairs(40, k, 40), -1);
        }
        for (int steps : new int[] {-1, 41, 42, BIG, SMALL}) {
            Kit.due("in " + steps, x.stairs(1, 3, steps), -1);
            Kit.due("40 in " + steps, x.stairs(40, 5, steps), -1);
        }
        for (int k = 3; k <= 5; k++) {
            Kit.due("one stair", x.stairs(1, k, 0), 1);
            Kit.due("one stair in 1", x.stairs(1, k, 1), 1);
            Kit.due("two stairs", x.stairs(2, k, 0), 2);
            Kit.due("three stairs", x.stairs(3, k, 0), k == 3 ? 4 : 3);
            Kit.due("four stairs", x.stairs(4, k, 0), k == 3 ? 7 : k == 4 ? 6 : 5);
            Kit.due("five stairs", x.stairs(5, k, 0), k == 3 ? 13 : k == 4 ? 10 : 9);
            long[] ways = new long[41];
            ways[0] = 1;
            for (int n = 1; n <= 40; n++) {
                ways[n] = ways[n - 1] + (n > 1 ? ways[n - 2] : 0) + (n >= k ? ways[n - k] : 0);
            }
            // More than 32 bits hold.
            Kit.due("40 stairs by " + k, x.stairs(40, k, 0), ways[40]);
            Kit.due("39 stairs by " + k, x.stairs(39, k, 0), ways[39]);
        }
        Kit.due("more than an int", x.stairs(40, 3, 0) > BIG, true);
        Kit.due("40 stairs by 3", x.stairs(40, 3, 0), 23837527729L);
    }

    private static void stairWays() {
        Kit.says("STAIRS: one climbs n stairs (1 to 40) by one, two or k (3 to 5) at a time");
        TwoKings x = new TwoKings();
        // By k at a time, and not by what lies between two and k.
        int[][] ways = {{3, 4, 7, 13, 24, 44}, {3, 3, 6, 10, 18, 31}, {3, 3, 5, 9, 15, 26}};
        for (int k = 3; k <= 5; k++) {
            for (int n = 4; n <= 7; n++) {
                Kit.due(n + " stairs by " + k, x.stairs(n, k, 0), ways[k - 3][n - 2]);
            }
        }
    }

    private static void stairSteps() {
        Kit.says("in how many ways; with just so many steps.");
        TwoKings x = new TwoKings();
        for (int k = 3; k <= 5; k++) {
            for (int n : new int[] {1, 2, 39, 40}) {
                Kit.due(n + " in as many", x.stairs(n, k, n), 1);
                Kit.due(n + " in one less", x.stairs(n, k, n - 1), n == 1 ? x.stairs(1, k, 0) : n - 1);
                Kit.due(n + " in one more", x.stairs(n, k, n + 1), n == 40 ? -1 : 0);
            }
            Kit.due("1 in 40", x.stairs(1, k, 40), 0);
            Kit.due("k in 1", x.stairs(k, k, 1), 1);
            Kit.due("k and one in 1", x.stairs(k + 1, k, 1), 0);
        }
        Kit.due("3 by 4 in 1", x.stairs(3, 4, 1), 0);
        Kit.due("4 by 5 in 1", x.stairs(4, 5, 1), 0);
        Kit.due("40 by 5 in 8", x.stairs(40, 5, 8), 1);
        Kit.due("40 by 5 in 7", x.stairs(40, 5, 7), 0);
        Kit.due("40 by 4 in 10", x.stairs(40, 4, 10), 1);
        Kit.due("40 by 4 in 9", x.stairs(40, 4, 9), 0);
        Kit.due("39 by 3 in 13", x.stairs(39, 3, 13), 1);
        Kit.due("40 by 3 in 13", x.stairs(40, 3, 13), 0);
        Kit.due("40 by 3 in 14", x.stairs(40, 3, 14), 14 * 14 - 14 * 13 / 2);
    }

    private static void heralds() {
        Kit.says("`int heralds(int n, int m)`: HERALDS of rows of n and m titles (0 to 10 each): rows; NONE: no such ones.");
        TwoKings x = new TwoKings();
        for (int n : new int[] {-1, 11, -10, 12, BIG, SMALL}) {
            for (int m : new int[] {0, 1, 10}) {
                Kit.due("heralds " + n + " " + m, x.heralds(n, m), -1);
                Kit.due("heralds " + m + " " + n, x.heralds(m, n), -1);
            }
            Kit.due("heralds of both " + n, x.heralds(n, n), -1);
        }
        for (int n = 0; n <= 10; n++) {
            Kit.due("with none", x.heralds(n, 0), 1);
            Kit.due("none with some", x.heralds(0, n), 1);
            Kit.due("with one", x.heralds(n, 1), n + 1);
            Kit.due("one with some", x.heralds(1, n), n + 1);
        }
        Kit.says("HERALDS: in how many rows two heralds' titles (unlike ones) can be read, one behind the other, "
                + "never two at once, each herald's in order.");
        Kit.due("two and two", x.heralds(2, 2), 6);
        Kit.due("two and three", x.heralds(2, 3), 10);
        Kit.due("ten and ten", x.heralds(10, 10), 184756);
        Kit.due("ten and nine", x.heralds(10, 9), 92378);
        Kit.due("nine and ten", x.heralds(9, 10), 92378);
    }
}
