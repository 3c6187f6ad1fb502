import java.util.ArrayList;
import java.util.List;

/** A call that is refused changes nothing: one on which it was tried answers all that follows as its twin does. */
public final class RefusedTest {
    private static final int BIG = Integer.MAX_VALUE;
    private static final int SMALL = Integer.MIN_VALUE;
    // The tape of all twins: a LAW, which is read behind the refused call.
    private static final String ON_THE_TAPE = "f9(p>3);d7(k=1);x(p=1&r>2);h(r=5)";

    /** A call, with its numbers; a boolean counts 1 or 0. */
    private interface Call {
        long on(TwoKings x);
    }

    private record Refused(String name, long answer, Call call) { }

    public static void main(String[] args) {
        Kit.says("A call that is refused (NONE, false) changes nothing but the tape, where it is told.");
        List<Refused> calls = new ArrayList<>();
        stateCalls(calls);
        breathCalls(calls);
        treatyCalls(calls);
        tapeCalls(calls);
        numberCalls(calls);
        for (Refused refused : calls) {
            compare(refused, 2, false);
            compare(refused, 2, true);
        }
        emptyTape();
        fullTape();
        Kit.due("calls that are refused", calls.size() > 200, true);
        Kit.end();
    }

    private static void add(List<Refused> calls, String name, long answer, Call call) {
        calls.add(new Refused(name, answer, call));
    }

    private static long bit(boolean answer) {
        return answer ? 1 : 0;
    }

    private static void stateCalls(List<Refused> calls) {
        for (int k : new int[] {-1, 2, BIG, SMALL}) {
            add(calls, "king " + k, 0, x -> bit(x.king(k, 7, true)));
            add(calls, "kingIs " + k, -1, x -> x.kingIs(k, 0));
        }
        for (int steps : new int[] {-1, 1000, BIG, SMALL}) {
            add(calls, "king 0 " + steps, 0, x -> bit(x.king(0, steps, true)));
            add(calls, "king 1 " + steps, 0, x -> bit(x.king(1, steps, false)));
        }
        for (int steps : new int[] {-1, 100, BIG, SMALL}) {
            add(calls, "tolerance " + steps, 0, x -> bit(x.tolerance(steps, 8)));
        }
        for (int degrees : new int[] {-1, 91, BIG, SMALL}) {
            add(calls, "tolerance 9 " + degrees, 0, x -> bit(x.tolerance(9, degrees)));
        }
        for (int seed : new int[] {-1, 65536, BIG, SMALL}) {
            add(calls, "seed " + seed, 0, x -> bit(x.seed(seed)));
        }
        for (int what : new int[] {-1, 6, BIG, SMALL}) {
            add(calls, "kingIs 0 " + what, -1, x -> x.kingIs(0, what));
        }
        for (int what : new int[] {-1, 10, BIG, SMALL}) {
            add(calls, "count " + what, -1, x -> x.count(what));
        }
    }

    private static void breathCalls(List<Refused> calls) {
        for (int n : new int[] {0, -1, 241, BIG, SMALL}) {
            add(calls, "breaths " + n, -1, x -> x.breaths(n));
            add(calls, "tried " + n, -1, x -> x.tried(n, 0));
            add(calls, "meet " + n, -1, x -> x.meet(n, 0));
            add(calls, "leaves " + n, -1, x -> x.leaves(n, 0));
            add(calls, "worst " + n, -1, x -> x.worst(n));
            add(calls, "nearer " + n, -1, x -> x.nearer(n, 0));
        }
        for (int what : new int[] {-1, 3, 9, 12, 19, 22, 29, 32, BIG, SMALL}) {
            add(calls, "tried 5 " + what, -1, x -> x.tried(5, what));
        }
        for (int what : new int[] {-1, 2, BIG, SMALL}) {
            add(calls, "meet 5 " + what, -1, x -> x.meet(5, what));
            add(calls, "leaves 5 " + what, -1, x -> x.leaves(5, what));
        }
        for (int what : new int[] {-1, 5, BIG, SMALL}) {
            add(calls, "nearer 5 " + what, -1, x -> x.nearer(5, what));
        }
    }

    private static void treatyCalls(List<Refused> calls) {
        for (int what : new int[] {-1, 16, 99, 102, BIG, SMALL}) {
            add(calls, "moments " + what, -1, x -> x.moments(what));
            add(calls, "act " + what, -1, x -> x.act(what, 0));
        }
        for (int what : new int[] {-1, 2, BIG, SMALL}) {
            add(calls, "act 0 " + what, -1, x -> x.act(0, what));
        }
    }

    /** Of a tape of forty bytes. */
    private static void tapeCalls(List<Refused> calls) {
        for (int n : new int[] {0, -1, 41, 240, 241, BIG, SMALL}) {
            add(calls, "law " + n, -1, x -> x.law(n));
        }
        for (int n : new int[] {0, -1, 41, 120, 121, BIG, SMALL}) {
            add(calls, "orders " + n, -1, x -> x.orders(n));
            add(calls, "treaty " + n, -1, x -> x.treaty(n));
        }
        for (int n : new int[] {1, 0, -1, 10, BIG, SMALL}) {
            add(calls, "lane " + n, -1, x -> x.lane(n, 0));
        }
        for (int n : new int[] {0, -1, 13, BIG, SMALL, 1 << 30, (1 << 30) + 1}) {
            add(calls, "signing " + n, -1, x -> x.signing(n, 0));
        }
        for (int n : new int[] {0, -1, 11, BIG, SMALL}) {
            add(calls, "titles " + n, -1, x -> x.titles(n, 1, 0));
            add(calls, "titles 1 " + n, -1, x -> x.titles(1, n, 0));
        }
        for (int n : new int[] {0, -1, 9, BIG, SMALL, 1 << 30, (1 << 30) + 1}) {
            add(calls, "gifts " + n, -1, x -> x.gifts(n, 0));
            add(calls, "cushions " + n, -1, x -> x.cushions(n, 0, 0, 0));
        }
        for (int high : new int[] {-1, 100, BIG, SMALL}) {
            add(calls, "cushions 1 " + high, -1, x -> x.cushions(1, high, 0, 0));
            add(calls, "cushions 1 0 " + high, -1, x -> x.cushions(1, 0, high, 0));
        }
        for (int n : new int[] {1, 0, -1, 7, BIG, SMALL}) {
            add(calls, "table " + n, -1, x -> x.table(n, 100));
        }
        for (int n : new int[] {1, 0, -1, 21, BIG, SMALL}) {
            add(calls, "tent " + n, -1, x -> x.tent(n, 0));
        }
        for (int what : new int[] {-1, 2, BIG, SMALL}) {
            add(calls, "lane 2 " + what, -1, x -> x.lane(2, what));
            add(calls, "signing 1 " + what, -1, x -> x.signing(1, what));
            add(calls, "titles 1 1 " + what, -1, x -> x.titles(1, 1, what));
            add(calls, "gifts 1 " + what, -1, x -> x.gifts(1, what));
            add(calls, "tent 2 " + what, -1, x -> x.tent(2, what));
        }
        for (int what : new int[] {-1, 3, BIG, SMALL}) {
            add(calls, "cushions 1 0 0 " + what, -1, x -> x.cushions(1, 0, 0, what));
        }
        for (int what : new int[] {-1, 2, 99, 102, BIG, SMALL}) {
            add(calls, "table 2 " + what, -1, x -> x.table(2, what));
        }
    }

    private static void numberCalls(List<Refused> calls) {
        for (int first : new int[] {-1, 1000, BIG, SMALL}) {
            add(calls, "drums " + first, -1, x -> x.drums(first, 1, 0, 1));
            add(calls, "drums 0 1 " + first, -1, x -> x.drums(0, 1, first, 1));
        }
        for (int each : new int[] {0, 1001, -1, BIG, SMALL}) {
            add(calls, "drums 0 " + each, -1, x -> x.drums(0, each, 0, 1));
            add(calls, "drums 0 1 0 " + each, -1, x -> x.drums(0, 1, 0, each));
        }
        for (int n : new int[] {0, 41, BIG, SMALL}) {
            add(calls, "stairs " + n, -1, x -> x.stairs(n, 3, 0));
            add(calls, "stairs by " + (n + 2), -1, x -> x.stairs(5, n + 2, 0));
            add(calls, "stairs in " + (n == 0 ? -1 : n), -1, x -> x.stairs(5, 3, n == 0 ? -1 : n));
        }
        for (int n : new int[] {-1, 11, BIG, SMALL}) {
            add(calls, "heralds " + n, -1, x -> x.heralds(n, 5));
            add(calls, "heralds 5 " + n, -1, x -> x.heralds(5, n));
        }
    }

    /** In the midst of all: moved, bowed, offended, a LAW, a TREATY, one KEPT, something on the tape. */
    private static TwoKings twin(int feeds, boolean hasKept) {
        TwoKings x = new TwoKings();
        x.tolerance(2, 3);
        x.seed(4711);
        x.king(0, 40, false);
        x.king(1, 50, true);
        Kit.treaty(x, "a<b;c=d;b<c");
        Kit.law(x, "f1+r%3(k=0);f2(k=1);d1(r>4);h(t%3=1)");
        x.breaths(3);
        if (hasKept) {
            x.keep();
        }
        x.breaths(2);
        Kit.orders(x, "0b21;1b17");
        if (feeds > 0) {
            Kit.text(x, ON_THE_TAPE);
        }
        for (int i = 2; i < feeds; i++) {
            x.feed(i, 0, 0, 0, 0);
        }
        Kit.due("bytes for a start", x.count(5), 20 * feeds);
        return x;
    }

    /** All that can be seen of it, with what is on the tape and what is KEPT. */
    private static String all(TwoKings x) {
        StringBuilder all = new StringBuilder(Kit.picture(x));
        all.append(" | law ").append(x.law(ON_THE_TAPE.length())).append(' ');
        for (int what : new int[] {0, 1, 2, 10, 11, 20, 21, 30, 31}) {
            all.append(x.tried(9, what)).append(' ');
        }
        all.append(" | undo ").append(x.undo()).append(' ').append(Kit.picture(x));
        return all.toString();
    }

    private static void compare(Refused refused, int feeds, boolean hasKept) {
        TwoKings x = twin(feeds, hasKept);
        Kit.due(refused.name, refused.call.on(x), refused.answer);
        Kit.due(refused.name + " once more", refused.call.on(x), refused.answer);
        Kit.due(refused.name + " leaves all", all(x), all(twin(feeds, hasKept)));
    }

    private static void emptyTape() {
        List<Refused> calls = new ArrayList<>();
        add(calls, "law 1", -1, x -> x.law(1));
        add(calls, "orders 1", -1, x -> x.orders(1));
        add(calls, "treaty 1", -1, x -> x.treaty(1));
        add(calls, "lane 2", -1, x -> x.lane(2, 0));
        add(calls, "signing 1", -1, x -> x.signing(1, 0));
        add(calls, "titles 1 1", -1, x -> x.titles(1, 1, 0));
        add(calls, "gifts 1", -1, x -> x.gifts(1, 0));
        add(calls, "cushions 1", -1, x -> x.cushions(1, 0, 0, 0));
        add(calls, "table 2", -1, x -> x.table(2, 100));
        add(calls, "tent 2", -1, x -> x.tent(2, 0));
        add(calls, "check", -2, TwoKings::check);
        for (Refused refused : calls) {
            compare(refused, 0, true);
        }
        Refused undo = new Refused("undo", 0, x -> bit(x.undo()));
        compare(undo, 2, false);
    }

    private static void fullTape() {
        compare(new Refused("feed", -1, x -> x.feed(-1, -1, -1, -1, -1)), 13, true);
        compare(new Refused("law 241", -1, x -> x.law(241)), 13, true);
        compare(new Refused("orders 121", -1, x -> x.orders(121)), 13, true);
        compare(new Refused("treaty 121", -1, x -> x.treaty(121)), 13, true);
    }
}
