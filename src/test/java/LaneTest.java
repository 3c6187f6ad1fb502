import java.util.HashMap;
import java.util.Map;

/** Promise 17: A LANE, against all that mules can do, tried one behind the other. */
public final class LaneTest {
    private static final int NEVER = 1000;
    // Mules stay mules, so what is known of one row serves all that can become it.
    private static final Map<String, Integer> KNOWN = new HashMap<>();
    private static TwoKings used = new TwoKings();
    private static int uses = 0;

    public static void main(String[] args) {
        wrongInputs();
        for (int n = 2; n <= 9; n++) {
            everyLane("", n);
        }
        Kit.end();
    }

    private static void wrongInputs() {
        TwoKings x = new TwoKings();
        Kit.due("lane of no tape", x.lane(2, 0), -1);
        Kit.text(x, ">.<x");
        Kit.due("lane of 1", x.lane(1, 0), -1);
        Kit.due("lane of 10", x.lane(10, 0), -1);
        Kit.due("lane of -5", x.lane(-5, 0), -1);
        Kit.due("lane what 2", x.lane(3, 2), -1);
        Kit.due("lane what -1", x.lane(3, -1), -1);
        Kit.due("the tape stays", x.count(5), 20);
        Kit.due("lane of 3", x.lane(3, 0), 2);
        Kit.due("the tape is empty", x.count(5), 0);
        Kit.text(x, ">.<x");
        Kit.due("a FAULT", x.lane(4, 0), -1003);
        Kit.due("the tape is empty behind a FAULT", x.count(5), 0);
        Kit.text(x, "x.y");
        Kit.due("the first FAULT", x.lane(3, 1), -1000);
        Kit.text(x, "><");
        Kit.due("it can't be", x.lane(2, 0), -2);
        Kit.due("the tape is empty behind what can't be", x.count(5), 0);
        Kit.text(x, "><");
        Kit.due("it can't be, what 1", x.lane(2, 1), -2);
        Kit.text(x, "<.>");
        Kit.due("no move", x.lane(3, 0), 0);
        Kit.text(x, "<.>");
        Kit.due("no move has no place", x.lane(3, 1), -4);
        Kit.text(x, "..");
        Kit.due("no mule", x.lane(2, 1), -4);
    }

    private static void everyLane(String row, int n) {
        if (row.length() == n) {
            compare(row);
            return;
        }
        everyLane(row + "<", n);
        everyLane(row + ">", n);
        everyLane(row + ".", n);
    }

    private static String moved(String row, int i) {
        char mule = row.charAt(i);
        if (mule == '.') {
            return null;
        }
        int step = mule == '>' ? 1 : -1;
        int to = i + step;
        if (to >= 0 && to < row.length() && row.charAt(to) == (mule == '>' ? '<' : '>')) {
            to += step;
        }
        if (to < 0 || to >= row.length() || row.charAt(to) != '.') {
            return null;
        }
        char[] next = row.toCharArray();
        next[i] = '.';
        next[to] = mule;
        return new String(next);
    }

    private static int fewest(String row) {
        if (row.replace(".", "").indexOf("><") < 0) {
            return 0;
        }
        if (!KNOWN.containsKey(row)) {
            int best = NEVER;
            for (int i = 0; i < row.length(); i++) {
                String next = moved(row, i);
                best = next == null ? best : Math.min(best, 1 + fewest(next));
            }
            KNOWN.put(row, best);
        }
        return KNOWN.get(row);
    }

    private static void compare(String row) {
        int best = fewest(row);
        int place = best == 0 ? -4 : -2;
        for (int i = row.length() - 1; i >= 0 && best > 0 && best < NEVER; i--) {
            String next = moved(row, i);
            place = next != null && fewest(next) == best - 1 ? i : place;
        }
        // Mostly one that has been used: what earlier lanes left behind must not matter.
        uses++;
        used = uses % 50 == 0 ? new TwoKings() : used;
        TwoKings x = used;
        Kit.text(x, row);
        Kit.due("moves of " + row, x.lane(row.length(), 0), best >= NEVER ? -2 : best);
        Kit.text(x, row);
        Kit.due("place of " + row, x.lane(row.length(), 1), place);
    }
}
