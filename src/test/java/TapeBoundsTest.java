import java.util.Arrays;

/** The bounds of the tape: promise 4, and how many bytes each of the calls takes that read it. */
public final class TapeBoundsTest {
    /** A call that reads the tape by n, with the rest of its numbers fixed. */
    private interface Call {
        long on(TwoKings x, int n);
    }

    public static void main(String[] args) {
        feed();
        order();
        full();
        numbers();
        oneByteTooFew();
        firstBytes();
        whats();
        Kit.end();
    }

    private static void feed() {
        Kit.says("Twenty bytes come behind the tape, the highest of each int first: how many it has; "
                + "NONE if that would be more than 260.");
        TwoKings x = new TwoKings();
        for (int i = 1; i <= 13; i++) {
            Kit.due("feed " + i, x.feed(i, -i, Integer.MIN_VALUE, Integer.MAX_VALUE, 0), 20 * i);
            Kit.due("bytes", x.count(5), 20 * i);
        }
        for (int i = 0; i < 3; i++) {
            Kit.due("feed to a full tape", x.feed(1, 2, 3, 4, 5), -1);
            Kit.due("it stays", x.count(5), 260);
        }
        Kit.due("a call that empties it", x.tent(2, 0), 1);
        Kit.due("it is empty", x.count(5), 0);
        Kit.due("feed anew", x.feed(1, 2, 3, 4, 5), 20);
    }

    /** Each place of the tape holds the byte that was fed there, of all of 0 to 255. */
    private static void order() {
        Kit.says("Twenty bytes come behind the tape, the highest of each int first");
        for (int place = 0; place < 20; place++) {
            for (int value : new int[] {1, 127, 128, 255}) {
                int[] bytes = new int[20];
                bytes[place] = value;
                TwoKings x = new TwoKings();
                // All other breadths are 0: however it is cut, it is unlike by this one, if this one is in it.
                for (int n = 2; n <= 20; n++) {
                    Kit.bytes(x, bytes);
                    Kit.due("tent of " + n + " with " + value + " at " + place, x.tent(n, 1), place < n ? value : 0);
                }
                Kit.bytes(x, bytes);
                int who = place % 2;
                Kit.due("signing with " + value + " at " + place, x.signing(10, 1), who);
            }
        }
    }

    private static void full() {
        Kit.says("`int feed(int a, int b, int c, int d, int e)`");
        // A text over many feeds is whole; a feed that is refused leaves all of it.
        TwoKings x = Kit.kings(900, 900);
        String law = "f" + Kit.times("1", 9, "+") + "(" + Kit.times("1=1", 55, "&") + ")";
        Kit.due("its length", law.length(), 18 + 2 + 55 * 3 + 54);
        Kit.text(x, law);
        Kit.due("the tape", x.count(5), 240);
        Kit.zeros(x, 1);
        Kit.due("a full tape", x.count(5), 260);
        Kit.due("feed is refused", x.feed(-1, -1, -1, -1, -1), -1);
        Kit.due("the law is whole", x.law(law.length()), 1);
        Kit.due("f of it", x.tried(1, 10), 891);
        Kit.due("the tape is empty", x.count(5), 0);
    }

    /** Every n up to beyond the greatest, with every length of the tape. */
    private static void numbers() {
        Kit.says("`int law(int n)`: THE LAW by the first n bytes of the tape (1 to 240; empty then)");
        taken("law", 1, 240, 1, (x, n) -> x.law(n));
        Kit.says("`int orders(int n)`: ORDERS by the first n bytes of the tape (1 to 120; empty then)");
        taken("orders", 1, 120, 1, (x, n) -> x.orders(n));
        Kit.says("`int treaty(int n)`: A TREATY by the first n bytes of the tape (1 to 120; empty then)");
        taken("treaty", 1, 120, 1, (x, n) -> x.treaty(n));
        Kit.says("A LANE by the first n bytes of the tape (n 2 to 9; empty then)");
        taken("lane", 2, 9, 1, (x, n) -> x.lane(n, 0));
        taken("lane", 2, 9, 1, (x, n) -> x.lane(n, 1));
        Kit.says("(minutes of KING 0, of KING 1, copy by copy; n 1 to 12; empty then)");
        taken("signing", 1, 12, 2, (x, n) -> x.signing(n, 0));
        taken("signing", 1, 12, 2, (x, n) -> x.signing(n, 1));
        Kit.says("TITLES by the first n and m bytes of the tape (1 to 10 each; empty then)");
        taken("titles n", 1, 10, 1, (x, n) -> x.titles(n, 1, 0));
        taken("titles n with 10", 1, 10, 1, (x, n) -> x.titles(n, 10, 1));
        taken("titles m", 1, 10, 1, (x, n) -> x.titles(1, n, 1));
        taken("titles m with 10", 1, 10, 1, (x, n) -> x.titles(10, n, 0));
        Kit.says("(KING 0's n, then KING 1's; n 1 to 8; empty then)");
        taken("gifts", 1, 8, 2, (x, n) -> x.gifts(n, 0));
        taken("gifts", 1, 8, 2, (x, n) -> x.gifts(n, 1));
        Kit.says("CUSHIONS by the first n bytes of the tape (heights; n 1 to 8; empty then)");
        taken("cushions", 1, 8, 1, (x, n) -> x.cushions(n, 0, 0, 0));
        taken("cushions", 1, 8, 1, (x, n) -> x.cushions(n, 99, 99, 2));
        Kit.says("(whom each of KING 1's must not sit beside, bits of KING 0's; n 2 to 6; empty then)");
        taken("table", 2, 6, 1, (x, n) -> x.table(n, 100));
        taken("table", 2, 6, 1, (x, n) -> x.table(n, 0));
        Kit.says("A TENT by the first n bytes of the tape (n 2 to 20; empty then)");
        taken("tent", 2, 20, 1, (x, n) -> x.tent(n, 0));
        taken("tent", 2, 20, 1, (x, n) -> x.tent(n, 1));
    }

    /** Of each call that reads the tape: what it takes, and what not. */
    private static void taken(String name, int least, int most, int bytesEach, Call call) {
        for (int fed = 0; fed <= 13; fed++) {
            TwoKings x = new TwoKings();
            Kit.zeros(x, fed);
            int calls = 0;
            int[] beyond = {Integer.MIN_VALUE, -257, -most, -least, -1, 0, 257, 65536 + most, Integer.MAX_VALUE,
                1 << 30, (1 << 30) + 1, (1 << 31) + 1};
            for (int n : beyond) {
                dueNone(name, x, n < least || n > most ? n : 0, 20 * fed, call);
            }
            for (int n = least - 2; n <= most + 2; n++) {
                boolean fine = n >= least && n <= most && n * bytesEach <= 20 * fed;
                if (fine) {
                    long answer = call.on(x, n);
                    Kit.due(name + " " + n + " of " + 20 * fed + " is NONE", answer == -1, false);
                    Kit.due(name + " " + n + ": the tape is empty then", x.count(5), 0);
                    // What is asked of the tape that is empty now is refused.
                    Kit.due(name + " " + n + " of nothing", call.on(x, n), -1);
                    x = new TwoKings();
                    Kit.zeros(x, fed);
                    calls = 0;
                } else {
                    dueNone(name, x, n, 20 * fed, call);
                }
                calls += 2;
                if (calls > 400) {
                    x = new TwoKings();
                    Kit.zeros(x, fed);
                    calls = 0;
                }
            }
        }
    }

    private static void dueNone(String name, TwoKings x, int n, int bytes, Call call) {
        Kit.due(name + " " + n + " of " + bytes, call.on(x, n), -1);
        Kit.due(name + " " + n + ": the tape stays", x.count(5), bytes);
    }

    /** The tape grows by twenty: as many as it has are taken, one more is refused and leaves it. */
    private static void oneByteTooFew() {
        Kit.says("NONE: no such n, it has not so many (the tape stays).");
        for (int fed = 0; fed <= 11; fed++) {
            dueTooFew("law", fed, 20 * fed + 1, (x, n) -> x.law(n));
        }
        Kit.says("a FAULT; NONE: as above.");
        for (int fed = 0; fed <= 5; fed++) {
            dueTooFew("orders", fed, 20 * fed + 1, (x, n) -> x.orders(n));
            dueTooFew("treaty", fed, 20 * fed + 1, (x, n) -> x.treaty(n));
        }
        Kit.says("NONE: no such ones, it has not so many (the tape stays).");
        dueTooFew("lane", 0, 2, (x, n) -> x.lane(n, 0));
        dueTooFew("lane", 0, 9, (x, n) -> x.lane(n, 1));
        dueTooFew("signing", 0, 1, (x, n) -> x.signing(n, 0));
        dueTooFew("signing", 1, 11, (x, n) -> x.signing(n, 1));
        dueTooFew("signing", 1, 12, (x, n) -> x.signing(n, 0));
        dueTooFew("titles", 0, 1, (x, n) -> x.titles(n, n, 0));
        dueTooFew("titles", 0, 10, (x, n) -> x.titles(n, n, 1));
        dueTooFew("gifts", 0, 1, (x, n) -> x.gifts(n, 0));
        dueTooFew("gifts", 0, 8, (x, n) -> x.gifts(n, 1));
        dueTooFew("cushions", 0, 1, (x, n) -> x.cushions(n, 0, 0, 0));
        dueTooFew("cushions", 0, 8, (x, n) -> x.cushions(n, 0, 0, 2));
        dueTooFew("table", 0, 2, (x, n) -> x.table(n, 100));
        dueTooFew("table", 0, 6, (x, n) -> x.table(n, 5));
        dueTooFew("tent", 0, 2, (x, n) -> x.tent(n, 0));
        dueTooFew("tent", 0, 20, (x, n) -> x.tent(n, 1));
    }

    private static void dueTooFew(String name, int fed, int n, Call call) {
        TwoKings x = new TwoKings();
        Kit.zeros(x, fed);
        dueNone(name, x, n, 20 * fed, call);
        // Twenty more are enough for the same call, which then empties it.
        Kit.zeros(x, 1);
        Kit.due(name + " " + n + " of twenty more is NONE", call.on(x, n) == -1, false);
        Kit.due(name + " " + n + " of twenty more: the tape is empty then", x.count(5), 0);
    }

    /** What stands behind the first n bytes does not matter, whatever it is. */
    private static void firstBytes() {
        Kit.says("THE LAW by the first n bytes of the tape");
        String law = "f12(1=1);f3(k=1)";
        int[] lawAnswers = {-1001, -1002, -1003, -1004, -1005, -1006, -1007, 1, -1009, -1010, -1011, -1012, -1013, -1014,
            -1015, 2};
        for (int n = 1; n <= law.length(); n++) {
            TwoKings x = new TwoKings();
            Kit.text(x, law);
            Kit.due("law " + law.substring(0, n), x.law(n), lawAnswers[n - 1]);
        }
        Kit.says("ORDERS by the first n bytes of the tape");
        String orders = "0f123;*b45;1h";
        int[] orderAnswers = {-1001, -1002, 1, 1, 1, -1006, -1007, -1008, 2, 2, -1011, -1012, 3};
        int[] left = {500, 500, 499, 488, 377, 500, 500, 500, 377, 377, 500, 500, 377};
        for (int n = 1; n <= orders.length(); n++) {
            TwoKings x = Kit.kings(500, 500);
            Kit.text(x, orders);
            Kit.due("orders " + orders.substring(0, n), x.orders(n), orderAnswers[n - 1]);
            Kit.due("STEPS LEFT by " + orders.substring(0, n), x.kingIs(0, 0), left[n - 1]);
        }
        Kit.says("A TREATY by the first n bytes of the tape");
        String treaty = "a<b;c=d";
        int[] treatyAnswers = {-1001, -1002, 1, -1004, -1005, -1006, 2};
        for (int n = 1; n <= treaty.length(); n++) {
            TwoKings x = new TwoKings();
            Kit.text(x, treaty);
            Kit.due("treaty " + treaty.substring(0, n), x.treaty(n), treatyAnswers[n - 1]);
            Kit.due("LINES of it", x.count(3), Math.max(0, treatyAnswers[n - 1]));
        }
        Kit.says("`int lane(int n, int what)`: A LANE by the first n bytes of the tape");
        dueFirst("lane", new int[] {'>', '.', '<', '<'}, 3, 2, (x, n) -> x.lane(n, 0));
        dueFirst("lane", new int[] {'<', '.', 'x'}, 2, 0, (x, n) -> x.lane(n, 0));
        Kit.says("SIGNING by the first 2 n bytes of the tape");
        dueFirst("signing", new int[] {1, 2, 3, 4, 99, 99}, 2, 7, (x, n) -> x.signing(n, 0));
        Kit.says("TITLES by the first n and m bytes of the tape");
        dueFirst("titles", new int[] {5, 7, 6, 0, 21}, 2, 12, (x, n) -> x.titles(n, 1, 0));
        dueFirst("titles", new int[] {20, 1, 1, 0, 21}, 1, 21, (x, n) -> x.titles(n, 2, 0));
        Kit.says("GIFTS by the first 2 n bytes of the tape");
        dueFirst("gifts", new int[] {1, 9, 11, 2, 200, 100}, 2, 3, (x, n) -> x.gifts(n, 1));
        Kit.says("CUSHIONS by the first n bytes of the tape");
        dueFirst("cushions", new int[] {3, 3, 0, 31}, 2, 3, (x, n) -> x.cushions(n, 0, 0, 0));
        Kit.says("A TABLE by the first n bytes of the tape");
        dueFirst("table", new int[] {0, 0, 0, 7, 7}, 3, 6, (x, n) -> x.table(n, 100));
        Kit.says("A TENT by the first n bytes of the tape");
        dueFirst("tent", new int[] {4, 9, 200}, 2, 5, (x, n) -> x.tent(n, 1));
        Kit.says("CHECK by the first 4 bytes of the tape");
        dueFirst("check", new int[] {0, 0, 0, 0, 1, 1}, 4, -1, (x, n) -> x.check());
    }

    private static void dueFirst(String name, int[] bytes, int n, long want, Call call) {
        TwoKings x = new TwoKings();
        Kit.bytes(x, bytes);
        Kit.due(name + " " + n + " of " + Arrays.toString(bytes), call.on(x, n), want);
        Kit.due(name + ": the tape is empty then", x.count(5), 0);
    }

    /** What each of them can be asked, and what not: then the tape stays. */
    private static void whats() {
        Kit.says("what 0 moves, 1 the place (no move: -4)");
        asked("lane", 0, 1, (x, what) -> x.lane(3, what));
        Kit.says("what 0 the least time, 1 whose work");
        asked("signing", 0, 1, (x, what) -> x.signing(2, what));
        Kit.says("what 0 breaths, 1 how many at once");
        asked("titles", 0, 1, (x, what) -> x.titles(2, 2, what));
        Kit.says("what 0 the greatest difference, 1 the sum");
        asked("gifts", 0, 1, (x, what) -> x.gifts(2, what));
        Kit.says("what 0 how high then, 1 which under the first one, 2 under the second one (bits)");
        asked("cushions", 0, 2, (x, what) -> x.cushions(2, 0, 0, what));
        Kit.says("how high both sit without (0 to 99 each)");
        asked("cushions, the first one", 0, 99, (x, first) -> x.cushions(2, first, 0, 0));
        asked("cushions, the second one", 0, 99, (x, second) -> x.cushions(2, 0, second, 0));
        Kit.says("what 0 behind how many breadths (1 to n - 1), 1 how unlike");
        asked("tent", 0, 1, (x, what) -> x.tent(3, what));
        Kit.says("what 100 ways, 101 the fewest that sit so, else who sits behind KING 0's what (0 to n - 1) "
                + "in the least row");
        for (int n = 2; n <= 6; n++) {
            int seats = n;
            asked("table of " + n, 0, n - 1, (x, what) -> x.table(seats, what == 100 || what == 101 ? -1 : what));
            TwoKings x = new TwoKings();
            for (int what = 98; what <= 103; what++) {
                Kit.zeros(x, 1);
                boolean known = what == 100 || what == 101;
                int fed = x.count(5);
                Kit.due("table " + what + " is known", x.table(n, what) != -1, known);
                Kit.due("the tape behind table " + what, x.count(5), known ? 0 : fed);
            }
        }
    }

    private static void asked(String name, int least, int most, Call call) {
        int[] others = {Integer.MIN_VALUE, -101, -100, -2, -1, most + 1, most + 2, 98, 99, 100, 101, 102, 256,
            Integer.MAX_VALUE};
        for (int what : others) {
            if (what < least || what > most) {
                TwoKings x = new TwoKings();
                Kit.zeros(x, 2);
                dueNone(name + " of", x, what, 40, call);
            }
        }
        for (int what = least; what <= most; what++) {
            TwoKings x = new TwoKings();
            Kit.zeros(x, 2);
            Kit.due(name + " of " + what + " is NONE", call.on(x, what) == -1, false);
            Kit.due(name + " of " + what + ": the tape is empty then", x.count(5), 0);
        }
    }
}
