import java.util.ArrayList;
import java.util.List;
import java.util.Random;

/** Promises 18 to 26, against trying all that can be done. */
public final class CeremonyTest {
    private static final Random RANDOM = new Random(26);
    private static TwoKings used = new TwoKings();
    private static int uses = 0;

    public static void main(String[] args) {
        wrongInputs();
        signing();
        titles();
        gifts();
        cushions();
        tables();
        drums();
        tents();
        stairs();
        heralds();
        Kit.end();
    }

    /** Mostly one that has been used: what earlier calls left behind must not matter. */
    private static TwoKings some() {
        uses++;
        if (uses % 20 == 0) {
            used = new TwoKings();
        }
        return used;
    }

    private static void wrongInputs() {
        TwoKings x = new TwoKings();
        Kit.due("signing of no tape", x.signing(1, 0), -1);
        Kit.due("titles of no tape", x.titles(1, 1, 0), -1);
        Kit.due("gifts of no tape", x.gifts(1, 0), -1);
        Kit.due("cushions of no tape", x.cushions(1, 0, 0, 0), -1);
        Kit.due("table of no tape", x.table(2, 100), -1);
        Kit.due("tent of no tape", x.tent(2, 0), -1);
        Kit.bytes(x, Kit.someBytes(RANDOM, 20, 1, 20));
        Kit.due("signing above the tape", x.signing(11, 0), -1);
        Kit.bytes(x, Kit.someBytes(RANDOM, 20, 1, 20));
        int big = Integer.MAX_VALUE;
        int small = Integer.MIN_VALUE;
        for (int n : new int[] {0, 13, -1, big, small}) {
            Kit.due("signing " + n, x.signing(n, 0), -1);
        }
        for (int n : new int[] {0, 11, -1, big, small}) {
            Kit.due("titles " + n, x.titles(n, 1, 0), -1);
            Kit.due("titles 1 " + n, x.titles(1, n, 0), -1);
        }
        for (int n : new int[] {0, 9, -1, big, small}) {
            Kit.due("gifts " + n, x.gifts(n, 0), -1);
            Kit.due("cushions " + n, x.cushions(n, 0, 0, 0), -1);
        }
        for (int n : new int[] {0, 1, 7, -1, big, small}) {
            Kit.due("table " + n, x.table(n, 100), -1);
        }
        for (int n : new int[] {0, 1, 21, -1, big, small}) {
            Kit.due("tent " + n, x.tent(n, 0), -1);
        }
        for (int what : new int[] {-1, 2, big, small}) {
            Kit.due("signing what " + what, x.signing(1, what), -1);
            Kit.due("titles what " + what, x.titles(1, 1, what), -1);
            Kit.due("gifts what " + what, x.gifts(1, what), -1);
            Kit.due("tent what " + what, x.tent(2, what), -1);
        }
        Kit.due("cushions what 3", x.cushions(1, 0, 0, 3), -1);
        Kit.due("cushions what -1", x.cushions(1, 0, 0, -1), -1);
        for (int sits : new int[] {-1, 100, big, small}) {
            Kit.due("cushions under " + sits, x.cushions(1, sits, 0, 0), -1);
            Kit.due("cushions under 0, " + sits, x.cushions(1, 0, sits, 0), -1);
        }
        for (int what : new int[] {-1, 4, 99, 102, big, small}) {
            Kit.due("table what " + what, x.table(4, what), -1);
        }
        Kit.due("the tape stays", x.count(5), 40);
    }

    // ---- SIGNING

    /** The least time by all orders of all copies for both, each as soon as can be. */
    private static int leastTime(int[] minutes, int done0, int done1, int[] times) {
        int n = minutes.length / 2;
        int all = (1 << n) - 1;
        if (done0 == all && done1 == all) {
            return Math.max(times[0], times[1]);
        }
        int best = Integer.MAX_VALUE;
        for (int who = 0; who < 2; who++) {
            for (int i = 0; i < n; i++) {
                if (((who == 0 ? done0 : done1) >> i & 1) == 0) {
                    int[] next = times.clone();
                    next[who] = Math.max(times[who], times[2 + i]) + minutes[2 * i + who];
                    next[2 + i] = next[who];
                    best = Math.min(best, leastTime(minutes, who == 0 ? done0 | 1 << i : done0,
                            who == 1 ? done1 | 1 << i : done1, next));
                }
            }
        }
        return best;
    }

    private static void signing() {
        for (int run = 0; run < 150; run++) {
            int n = run < 100 ? 1 + RANDOM.nextInt(3) : 4;
            n = run < 146 ? Math.min(n, 3) : n;
            int[] minutes = Kit.someBytes(RANDOM, 2 * n, 0, run % 2 == 0 ? 9 : 255);
            int sum0 = 0;
            int sum1 = 0;
            for (int i = 0; i < n; i++) {
                sum0 += minutes[2 * i];
                sum1 += minutes[2 * i + 1];
            }
            int best = leastTime(minutes, 0, 0, new int[2 + n]);
            dueSigning(minutes, best, best == sum0 ? 0 : best == sum1 ? 1 : 2);
        }
        dueSigning(new int[] {0, 0}, 0, 0);
        dueSigning(new int[] {5, 5}, 10, 2);
        dueSigning(new int[] {0, 7}, 7, 1);
        dueSigning(new int[] {3, 3, 3, 3}, 6, 0);
        dueSigning(new int[] {1, 3, 1, 3}, 6, 1);
        int[] twelve = new int[24];
        java.util.Arrays.fill(twelve, 255);
        dueSigning(twelve, 12 * 255, 0);
    }

    private static void dueSigning(int[] minutes, int time, int who) {
        TwoKings x = some();
        String name = "signing " + java.util.Arrays.toString(minutes);
        Kit.bytes(x, minutes);
        Kit.due(name, x.signing(minutes.length / 2, 0), time);
        Kit.due(name + " tape", x.count(5), 0);
        Kit.bytes(x, minutes);
        Kit.due(name + " who", x.signing(minutes.length / 2, 1), who);
    }

    // ---- TITLES

    private static int[] leastBreaths(int[] a, int i, int[] b, int j) {
        if (i == a.length && j == b.length) {
            return new int[] {0, 0};
        }
        int[] best = {Integer.MAX_VALUE, 0};
        if (i < a.length) {
            int[] rest = leastBreaths(a, i + 1, b, j);
            best = better(best, rest[0] + a[i], rest[1]);
        }
        if (j < b.length) {
            int[] rest = leastBreaths(a, i, b, j + 1);
            best = better(best, rest[0] + b[j], rest[1]);
        }
        if (i < a.length && j < b.length) {
            int[] rest = leastBreaths(a, i + 1, b, j + 1);
            best = better(best, rest[0] + Math.max(a[i], b[j]), rest[1] + 1);
        }
        return best;
    }

    private static int[] better(int[] best, int breaths, int atOnce) {
        boolean is = breaths < best[0] || breaths == best[0] && atOnce > best[1];
        return is ? new int[] {breaths, atOnce} : best;
    }

    private static void titles() {
        for (int run = 0; run < 400; run++) {
            int[] a = Kit.someBytes(RANDOM, 1 + RANDOM.nextInt(6), 1, run % 2 == 0 ? 4 : 20);
            int[] b = Kit.someBytes(RANDOM, 1 + RANDOM.nextInt(6), 1, run % 2 == 0 ? 4 : 20);
            int[] best = leastBreaths(a, 0, b, 0);
            dueTitles(a, b, best[0], best[1]);
        }
        int[] ten = new int[10];
        java.util.Arrays.fill(ten, 20);
        dueTitles(ten, ten, 200, 10);
        dueTitles(new int[] {1}, ten, 200, 1);
        dueTitles(new int[] {0}, new int[] {1}, -2, -2);
        dueTitles(new int[] {1}, new int[] {0}, -2, -2);
        dueTitles(new int[] {21}, new int[] {1}, -2, -2);
        dueTitles(new int[] {1, 2}, new int[] {1, 255}, -2, -2);
    }

    private static void dueTitles(int[] a, int[] b, int breaths, int atOnce) {
        int[] bytes = java.util.Arrays.copyOf(a, a.length + b.length);
        System.arraycopy(b, 0, bytes, a.length, b.length);
        String name = "titles " + a.length + " " + java.util.Arrays.toString(bytes);
        TwoKings x = some();
        Kit.bytes(x, bytes);
        Kit.due(name, x.titles(a.length, b.length, 0), breaths);
        Kit.due(name + " tape", x.count(5), 0);
        Kit.bytes(x, bytes);
        Kit.due(name + " at once", x.titles(a.length, b.length, 1), atOnce);
    }

    // ---- rows in every order, the least first

    private static void everyRow(int n, List<Integer> row, List<int[]> rows) {
        if (row.size() == n) {
            int[] one = new int[n];
            for (int i = 0; i < n; i++) {
                one[i] = row.get(i);
            }
            rows.add(one);
            return;
        }
        for (int i = 0; i < n; i++) {
            if (!row.contains(i)) {
                row.add(i);
                everyRow(n, row, rows);
                row.remove(row.size() - 1);
            }
        }
    }

    private static List<int[]> rows(int n) {
        List<int[]> rows = new ArrayList<>();
        everyRow(n, new ArrayList<>(), rows);
        return rows;
    }

    private static void gifts() {
        for (int run = 0; run < 200; run++) {
            int n = 1 + RANDOM.nextInt(6);
            int[] worth = Kit.someBytes(RANDOM, 2 * n, 0, run % 2 == 0 ? 12 : 255);
            int greatest = Integer.MAX_VALUE;
            int sum = Integer.MAX_VALUE;
            for (int[] row : rows(n)) {
                int most = 0;
                int all = 0;
                for (int i = 0; i < n; i++) {
                    int difference = Math.abs(worth[i] - worth[n + row[i]]);
                    most = Math.max(most, difference);
                    all += difference;
                }
                sum = most < greatest ? all : most == greatest ? Math.min(sum, all) : sum;
                greatest = Math.min(greatest, most);
            }
            dueGifts(worth, greatest, sum);
        }
        int[] eight = new int[16];
        java.util.Arrays.fill(eight, 8, 16, 255);
        dueGifts(eight, 255, 8 * 255);
    }

    private static void dueGifts(int[] worth, int greatest, int sum) {
        TwoKings x = some();
        String name = "gifts " + java.util.Arrays.toString(worth);
        Kit.bytes(x, worth);
        Kit.due(name, x.gifts(worth.length / 2, 0), greatest);
        Kit.due(name + " tape", x.count(5), 0);
        Kit.bytes(x, worth);
        Kit.due(name + " sum", x.gifts(worth.length / 2, 1), sum);
    }

    // ---- CUSHIONS

    private static int sum(int[] heights, int bits) {
        int sum = 0;
        for (int i = 0; i < heights.length; i++) {
            sum += (bits >> i & 1) * heights[i];
        }
        return sum;
    }

    private static void cushions() {
        for (int run = 0; run < 300; run++) {
            int[] heights = Kit.someBytes(RANDOM, 1 + RANDOM.nextInt(8), 1, run % 3 == 0 ? 30 : 6);
            int first = RANDOM.nextInt(run % 2 == 0 ? 10 : 100);
            int second = run % 5 == 0 ? first : RANDOM.nextInt(run % 2 == 0 ? 10 : 100);
            int best = -2;
            int under = -2;
            int other = -2;
            for (int a = 0; a < 1 << heights.length; a++) {
                for (int b = 0; b < 1 << heights.length; b++) {
                    int high = first + sum(heights, a);
                    if ((a & b) == 0 && high == second + sum(heights, b) && high > best) {
                        best = high;
                        under = a;
                        other = b;
                    }
                }
            }
            dueCushions(heights, first, second, new int[] {best, under, other});
        }
        dueCushions(new int[] {5}, 7, 7, new int[] {7, 0, 0});
        dueCushions(new int[] {1, 1, 1, 1}, 0, 0, new int[] {2, 3, 12});
        dueCushions(new int[] {30, 30, 30, 9}, 99, 0, new int[] {99, 0, 15});
        dueCushions(new int[] {30}, 69, 99, new int[] {99, 1, 0});
        dueCushions(new int[] {0}, 0, 0, new int[] {-3, -3, -3});
        dueCushions(new int[] {5, 31}, 0, 1, new int[] {-3, -3, -3});
        dueCushions(new int[] {5, 0}, 0, 1, new int[] {-3, -3, -3});
        dueCushions(new int[] {5}, 0, 1, new int[] {-2, -2, -2});
    }

    private static void dueCushions(int[] heights, int first, int second, int[] want) {
        for (int what = 0; what < 3; what++) {
            TwoKings x = some();
            Kit.bytes(x, heights);
            String name = "cushions " + java.util.Arrays.toString(heights) + " " + first + " " + second + " " + what;
            Kit.due(name, x.cushions(heights.length, first, second, what), want[what]);
            Kit.due(name + " tape", x.count(5), 0);
        }
    }

    // ---- A TABLE

    private static void tables() {
        for (int run = 0; run < 150; run++) {
            int n = 2 + RANDOM.nextInt(5);
            int[] mustNot = Kit.someBytes(RANDOM, n, 0, (1 << n) - 1);
            for (int i = 0; i < n && run % 3 != 0; i++) {
                mustNot[i] &= RANDOM.nextInt(64) & RANDOM.nextInt(64);
            }
            dueTable(mustNot);
        }
        dueTable(new int[] {0, 0});
        dueTable(new int[] {1, 0});
        dueTable(new int[] {0, 0, 0, 0, 0, 0});
        dueTable(new int[] {63, 63, 63, 63, 63, 63});
        dueTable(new int[] {48, 33, 3, 6, 12, 24});
        // Bits of nobody matter to nobody.
        dueTable(new int[] {252, 248, 252});
    }

    private static void dueTable(int[] mustNot) {
        int n = mustNot.length;
        int ways = 0;
        int fewest = n;
        int[] least = null;
        for (int[] row : rows(n)) {
            int badly = 0;
            for (int i = 0; i < n; i++) {
                int beside = 1 << i | 1 << (i + 1) % n;
                badly += (mustNot[row[i]] & beside) != 0 ? 1 : 0;
            }
            least = badly == 0 && least == null ? row : least;
            ways += badly == 0 ? 1 : 0;
            fewest = Math.min(fewest, badly);
        }
        TwoKings x = some();
        String name = "table " + java.util.Arrays.toString(mustNot) + " ";
        Kit.bytes(x, mustNot);
        Kit.due(name + 100, x.table(n, 100), ways);
        Kit.due(name + "tape", x.count(5), 0);
        Kit.bytes(x, mustNot);
        Kit.due(name + 101, x.table(n, 101), fewest);
        for (int i = 0; i < n; i++) {
            Kit.bytes(x, mustNot);
            Kit.due(name + i, x.table(n, i), least == null ? -2 : least[i]);
        }
        Kit.bytes(x, mustNot);
        Kit.due(name + n, x.table(n, n), -1);
        x.tent(2, 0);
    }

    // ---- DRUMS

    private static void drums() {
        TwoKings x = some();
        int big = Integer.MAX_VALUE;
        int[][] none = {{-1, 1, 0, 1}, {1000, 1, 0, 1}, {0, 0, 0, 1}, {0, 1001, 0, 1}, {0, 1, -1, 1}, {0, 1, 1000, 1},
            {0, 1, 0, 0}, {0, 1, 0, 1001}, {0, -5, 0, 1}, {big, big, big, big}};
        for (int[] d : none) {
            Kit.due("drums " + java.util.Arrays.toString(d), x.drums(d[0], d[1], d[2], d[3]), -1);
        }
        dueDrums(0, 1, 999, 1);
        dueDrums(999, 1000, 0, 1000);
        dueDrums(0, 1000, 999, 999);
        dueDrums(1, 1000, 0, 999);
        dueDrums(0, 999, 1, 1000);
        dueDrums(0, 1, 999, 1000);
        dueDrums(998, 2, 999, 2);
        dueDrums(0, 997, 996, 1000);
        for (int run = 0; run < 500; run++) {
            int most = run % 2 == 0 ? 20 : 1000;
            dueDrums(RANDOM.nextInt(most), 1 + RANDOM.nextInt(most), RANDOM.nextInt(most), 1 + RANDOM.nextInt(most));
        }
    }

    private static void dueDrums(int first, int each, int otherFirst, int otherEach) {
        int beat = -2;
        for (int i = Math.max(first, otherFirst); i < 1_002_000 && beat == -2; i++) {
            if ((i - first) % each == 0 && (i - otherFirst) % otherEach == 0) {
                beat = i;
            }
        }
        Kit.due("drums " + first + " " + each + " " + otherFirst + " " + otherEach,
                new TwoKings().drums(first, each, otherFirst, otherEach), beat);
    }

    // ---- A TENT

    private static void tents() {
        for (int run = 0; run < 300; run++) {
            int n = 2 + RANDOM.nextInt(19);
            int[] breadths = Kit.someBytes(RANDOM, n, 0, run % 3 == 0 ? 1 : 255);
            int best = -1;
            int cut = -1;
            for (int i = 1; i < n; i++) {
                int unlike = 0;
                for (int j = 0; j < n; j++) {
                    unlike += j < i ? breadths[j] : -breadths[j];
                }
                if (best == -1 || Math.abs(unlike) < best) {
                    best = Math.abs(unlike);
                    cut = i;
                }
            }
            TwoKings x = some();
            String name = "tent " + java.util.Arrays.toString(breadths);
            Kit.bytes(x, breadths);
            Kit.due(name, x.tent(n, 0), cut);
            Kit.due(name + " tape", x.count(5), 0);
            Kit.bytes(x, breadths);
            Kit.due(name + " unlike", x.tent(n, 1), best);
        }
    }

    // ---- STAIRS and HERALDS

    private static long ways(int n, int k, int steps) {
        if (n < 0 || steps < 0) {
            return 0;
        }
        if (n == 0) {
            return steps == 0 ? 1 : 0;
        }
        return ways(n - 1, k, steps - 1) + ways(n - 2, k, steps - 1) + ways(n - k, k, steps - 1);
    }

    private static void stairs() {
        TwoKings x = new TwoKings();
        int[][] none = {{0, 3, 0}, {41, 3, 0}, {-1, 3, 0}, {5, 2, 0}, {5, 6, 0}, {5, 3, -1}, {5, 3, 41}};
        for (int[] s : none) {
            Kit.due("stairs " + java.util.Arrays.toString(s), x.stairs(s[0], s[1], s[2]), -1);
        }
        for (int k = 3; k <= 5; k++) {
            long[] any = new long[41];
            any[0] = 1;
            for (int n = 1; n <= 40; n++) {
                x = n % 10 == 0 ? new TwoKings() : x;
                any[n] = any[n - 1] + (n >= 2 ? any[n - 2] : 0) + (n >= k ? any[n - k] : 0);
                Kit.due("stairs " + n + " " + k, x.stairs(n, k, 0), any[n]);
                long all = 0;
                for (int steps = 1; steps <= 40; steps++) {
                    long exact = x.stairs(n, k, steps);
                    all += exact;
                    if (n <= 14) {
                        Kit.due("stairs " + n + " " + k + " " + steps, exact, ways(n, k, steps));
                    }
                }
                Kit.due("stairs by all steps " + n + " " + k, all, any[n]);
            }
        }
        Kit.due("stairs 40 by ones", x.stairs(40, 5, 40), 1);
        Kit.due("stairs 40 in 7", x.stairs(40, 5, 7), 0);
        Kit.due("stairs 40 in 8", x.stairs(40, 5, 8), 1);
        Kit.due("stairs 40", x.stairs(40, 3, 0), 23837527729L);
    }

    private static int readings(int n, int m) {
        return n == 0 || m == 0 ? 1 : readings(n - 1, m) + readings(n, m - 1);
    }

    private static void heralds() {
        TwoKings x = new TwoKings();
        for (int n = 0; n <= 10; n++) {
            for (int m = 0; m <= 10; m++) {
                Kit.due("heralds " + n + " " + m, x.heralds(n, m), readings(n, m));
            }
        }
        for (int n : new int[] {-1, 11, Integer.MAX_VALUE, Integer.MIN_VALUE}) {
            Kit.due("heralds " + n, x.heralds(n, 1), -1);
            Kit.due("heralds 1 " + n, x.heralds(1, n), -1);
        }
    }
}
