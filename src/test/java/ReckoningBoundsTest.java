/** What E and C of a RULE are at their bounds: 32 bits, what is divided by 0, what is asked, each letter. */
public final class ReckoningBoundsTest {
    private static final String MAX = "99999*21474+99999+5122";
    private static final String MIN = "[0-99999*21474-99999-5122-1]";

    public static void main(String[] args) {
        boundsOfAmounts();
        firstRule();
        fromTheLeft();
        thirtyTwoBits();
        machineDivides();
        dividedByZero();
        amountDividedByZero();
        asMuchAsMatters();
        partsAndTests();
        compares();
        letters();
        breathModuloHundred();
        hatsAndLeaving();
        asItIsWhenItBegins();
        Kit.end();
    }

    /** Whether a C holds for KING 0 of two who have 9 STEPS LEFT. */
    private static boolean holds(String c) {
        TwoKings x = Kit.kings(9, 9);
        Kit.dueLaw(x, "f3(" + c + ")", 1);
        return x.tried(1, 10) == 6;
    }

    private static void dueHolds(String c, boolean want) {
        Kit.due(c, holds(c), want);
    }

    /** The E is just this number: neither less nor more. */
    private static void dueValue(String e, int want) {
        String number = want == Integer.MIN_VALUE ? MIN : want < 0 ? "0-[" + number(-want) + "]" : number(want);
        dueHolds(e + "=" + number, true);
        dueHolds("[" + e + "]-[" + number + "]=0", true);
        dueHolds(e + ">" + number, false);
        dueHolds(e + "<" + number, false);
    }

    private static String number(int value) {
        return "[" + value / 1000000 + "*1000+" + value / 1000 % 1000 + "]*1000+" + value % 1000;
    }

    /** What KING 0 does by a RULE of that letter with this E: STEPS forward, a BOW more, or less. */
    private static int amount(char letter, String e) {
        TwoKings x = Kit.kings(100, 100);
        Kit.orders(x, letter == 'u' ? "0b90" : "0b0");
        Kit.dueLaw(x, letter + e + "(k=0)", 1);
        switch (letter) {
            case 'f': return 100 - x.tried(1, 10);
            case 'd': return x.tried(1, 30);
            default: return 90 - x.tried(1, 30);
        }
    }

    private static void boundsOfAmounts() {
        Kit.says("f STEPS forward in a BREATH (0 to 9)");
        dueAmounts('f', 9);
        Kit.says("d degrees that he bows more (0 to 90)");
        dueAmounts('d', 90);
        Kit.says("u degrees that he rises (0 to 90)");
        dueAmounts('u', 90);
    }

    private static void dueAmounts(char letter, int most) {
        for (int e = 0; e <= most; e++) {
            Kit.due(letter + " " + e, amount(letter, "" + e), e);
        }
        for (int above : new int[] {most + 1, most + 2, 2 * most, 100, 256, 1000, 65536, 99999}) {
            Kit.due(letter + " " + above, amount(letter, "" + above), most);
        }
        for (int below : new int[] {1, 2, most, most + 1, 100, 256, 65536, 99999}) {
            Kit.due(letter + " 0-" + below, amount(letter, "0-" + below), 0);
        }
        Kit.due(letter + " of the greatest", amount(letter, MAX), most);
        Kit.due(letter + " of the least", amount(letter, MIN), 0);
        Kit.due(letter + " of one more than the greatest", amount(letter, MAX + "+1"), 0);
        Kit.due(letter + " of one less than the least", amount(letter, MIN + "-1"), most);
    }

    private static void firstRule() {
        Kit.says("of the first RULE of f, d, u whose C holds the E (beyond its bounds the bound; none: 0)");
        char[] letters = {'f', 'd', 'u'};
        for (char letter : letters) {
            TwoKings x = Kit.kings(100, 100);
            Kit.orders(x, "*b50");
            int what = letter == 'f' ? 10 : 30;
            int[] before = {letter == 'f' ? 100 : 50, letter == 'd' ? 1 : -1};
            String[] laws = {"?1(1=1);?2(1=1)", "?1(1=2);?2(1=1);?3(1=1)", "?1(k=1);?2(k=0)", "?1(1=2);?2(1=2)",
                "?99(1=1);?1(1=1)", "?0-5(1=1);?4(1=1)", "?1/0(1=1);?4(1=1)", "?1(1/0=0);?4(1=1)", "h(1=1);?3(1=1);x(1=2)"};
            int[] first = {1, 2, 2, 0, letter == 'f' ? 9 : 90, 0, 0, 4, 3};
            for (int i = 0; i < laws.length; i++) {
                Kit.law(x, laws[i].replace('?', letter));
                int want = Math.max(0, Math.min(letter == 'f' ? 100 : 90, before[0] + before[1] * first[i]));
                Kit.due(laws[i].replace('?', letter), x.tried(1, what), want);
            }
        }
        // Each letter has a first RULE of its own.
        TwoKings x = Kit.kings(100, 100);
        Kit.orders(x, "0b50");
        Kit.law(x, "d7(1=1);f5(1=1);u2(1=1);f1(1=1);d1(1=1);u1(1=1)");
        Kit.due("STEPS", x.tried(1, 10), 95);
        Kit.due("BOW", x.tried(1, 30), 55);
    }

    private static void fromTheLeft() {
        Kit.says("TERMS with + or - between two; a TERM: FACTORS with one of * / % between two; from the left on");
        dueValue("10-3-2", 5);
        dueValue("10-3+2", 9);
        dueValue("10+3-2", 11);
        dueValue("10-[3-2]", 9);
        dueValue("100/10/5", 2);
        dueValue("100/[10/5]", 50);
        dueValue("100/10*5", 50);
        dueValue("7*5/3", 11);
        dueValue("7/3*5", 10);
        dueValue("17%10%4", 3);
        dueValue("17%[10%4]", 1);
        dueValue("17%10*4", 28);
        dueValue("4*17%10", 8);
        dueValue("20/7%2", 0);
        dueValue("20%7/2", 3);
        dueValue("2+3*4", 14);
        dueValue("2*3+4", 10);
        dueValue("20-6/4", 19);
        dueValue("20-7%4", 17);
        dueValue("[2+3]*4", 20);
        dueValue("2*[3+4]", 14);
        dueValue("1+2*3-4/2%3+5", 10);
    }

    private static void thirtyTwoBits() {
        Kit.says("All is reckoned with 32 bits, as the machine does");
        dueValue(MAX, Integer.MAX_VALUE);
        dueValue(MIN, Integer.MIN_VALUE);
        dueValue(MAX + "+1", Integer.MIN_VALUE);
        dueValue(MAX + "+2", Integer.MIN_VALUE + 1);
        dueValue(MIN + "-1", Integer.MAX_VALUE);
        dueValue("0-" + MIN, Integer.MIN_VALUE);
        dueValue("0-[" + MAX + "]", -Integer.MAX_VALUE);
        dueValue("[" + MAX + "]+[" + MAX + "]", -2);
        dueValue(MIN + "+" + MIN, 0);
        dueValue("[" + MAX + "]*2", -2);
        dueValue(MIN + "*2", 0);
        dueValue(MIN + "*[0-1]", Integer.MIN_VALUE);
        dueValue("65536*32767", 65536 * 32767);
        dueValue("65536*32768", Integer.MIN_VALUE);
        dueValue("65536*65536", 0);
        dueValue("65536*65537", 65536);
        dueValue("46340*46340", 46340 * 46340);
        dueValue("46341*46341", 46341 * 46341);
        dueValue("99999*99999", 99999 * 99999);
        dueValue("99999*99999*99999", 99999 * 99999 * 99999);
        dueValue("65536*65536/2", 0);
        // What is compared is compared as it stands, not by a difference that wraps around.
        dueHolds(MAX + ">" + MIN, true);
        dueHolds(MIN + "<" + MAX, true);
        dueHolds(MAX + "<" + MIN, false);
        dueHolds(MIN + ">" + MAX, false);
        dueHolds(MAX + "=" + MIN, false);
        dueHolds(MIN + "<1", true);
        dueHolds("1>" + MIN, true);
    }

    private static void machineDivides() {
        Kit.says("All is reckoned with 32 bits, as the machine does");
        dueValue("7/2", 3);
        dueValue("[0-7]/2", -3);
        dueValue("7/[0-2]", -3);
        dueValue("[0-7]/[0-2]", 3);
        dueValue("7%2", 1);
        dueValue("[0-7]%2", -1);
        dueValue("7%[0-2]", 1);
        dueValue("[0-7]%[0-2]", -1);
        dueValue("0/5", 0);
        dueValue("0%5", 0);
        dueValue("5/1", 5);
        dueValue("5%1", 0);
        dueValue("5%6", 5);
        dueValue("5/6", 0);
        dueValue(MIN + "/[0-1]", Integer.MIN_VALUE);
        dueValue(MIN + "%[0-1]", 0);
        dueValue(MIN + "/1", Integer.MIN_VALUE);
        dueValue(MIN + "/2", Integer.MIN_VALUE / 2);
        dueValue(MIN + "%10", Integer.MIN_VALUE % 10);
        dueValue("[" + MAX + "]/" + MIN, 0);
        dueValue(MIN + "/" + MIN, 1);
    }

    private static void dividedByZero() {
        Kit.says("what is divided by 0 is REFUSED: then the whole C of the RULE does not hold");
        String[] zeros = {"1/0=0", "1%0=0", "1%0=1", "0/0=0", "0/0=1", "0%0=0", "5/[1-1]=5", "5%[2-2]=5", "0=1/0", "1<1/0",
            "1>1%0", "1/0=1/0", "1/0+1=1", "0*[1/0]=0", "1/0*0=0", "1+1/0-1/0=1", "[1%0]=[1%0]", "9/[k]=0", "1%k=0",
            "99999*99999/[65536*65536]=0"};
        for (String zero : zeros) {
            dueHolds(zero, false);
            dueHolds("!" + zero, false);
            dueHolds("!!" + zero, false);
            dueHolds("!(" + zero + ")", false);
            dueHolds("!(!(" + zero + "))", false);
            dueHolds(zero + "|1=1", false);
            dueHolds("(" + zero + ")|1=1", false);
            dueHolds("!(" + zero + "|1=1)|1=1", false);
            dueHolds("(1=2|" + zero + ")|1=1", false);
            dueHolds("1=1&" + zero + "|1=1", false);
            dueHolds("1=1&(" + zero + ")|1=1", false);
            dueHolds("1=2|" + zero + "|1=1", false);
            dueHolds("1=1&!" + zero, false);
        }
        // Of this RULE alone: those of others hold or not as before, h and x, too.
        TwoKings x = Kit.kings(9, 9);
        Kit.law(x, "f1(1/0=0);f2(1=1);h(1/0=0);x(1%0=0)");
        Kit.due("the next RULE", x.tried(1, 10), 7);
        Kit.due("nobody LEAVES", x.leaves(1, 0), -2);
        Kit.orders(x, "0o");
        x.breaths(1);
        Kit.due("the HAT is on by an h that does not hold", x.kingIs(0, 3), 1);
        Kit.law(x, "h(1/0=0);h(k=0);x(1/0=0);x(k=0)");
        x.breaths(1);
        Kit.due("another h", x.kingIs(0, 3), 0);
        Kit.due("another x", x.count(2), 1);
        // For one of the KINGS alone.
        x = Kit.kings(9, 9);
        Kit.law(x, "f3(1/k=1)");
        Kit.due("of 0 it is REFUSED", x.tried(1, 10), 9);
        Kit.due("of 1 it is not", x.tried(1, 11), 6);
    }

    private static void amountDividedByZero() {
        Kit.says("the E of it is 0");
        String[] zeros = {"1/0", "1%0", "0/0", "9+1/0", "1/0+9", "9-0*[1/0]", "[5%0]*0+9", "9/[3-3]"};
        for (String zero : zeros) {
            for (char letter : new char[] {'f', 'd', 'u'}) {
                Kit.due(letter + zero, amount(letter, zero), 0);
            }
        }
        TwoKings x = Kit.kings(9, 9);
        Kit.law(x, "f5/k(1=1);f2(1=1)");
        Kit.due("this RULE's E it is all the same", x.tried(1, 10), 9);
        Kit.due("of 1 it is not REFUSED", x.tried(1, 11), 4);
        // A RULE whose C does not hold is not asked for its E.
        Kit.law(x, "f5/0(1=2);f2(1=1)");
        Kit.due("the next RULE's", x.tried(1, 10), 7);
    }

    private static void asMuchAsMatters() {
        Kit.says("Of a C as much is asked, from the left, as matters.");
        String zero = "1/0=1";
        String[] held = {"1=1|?", "1=1|?|1=1", "(1=1|?)", "!(1=2&?)", "1=2&?|1=1", "(1=1|?)&1=1", "1=1&1=1|?", "!1=2|?",
            "!(1=1&1=2&?)", "(1=2&?)|1=1", "1=2|1=1|?", "1=1|(?)", "1=1|!?", "1=1|2=2&?", "1=2&?&?|1=1", "!(1=2&(?|1=1))",
            "1=1&(1=1|?)|?"};
        for (String test : held) {
            dueHolds(test.replace("?", zero), true);
            dueHolds(test.replace("?", "1%0=0"), true);
        }
        String[] not = {"1=2&?", "!(1=1|?)", "(1=2&?)", "1=1&1=2&?", "1=2&?|1=2", "!(1=1|?|1=1)", "(1=2&?)&?",
            "!(1=2&?|1=1)", "1=2&(1=1|?)"};
        for (String test : not) {
            dueHolds(test.replace("?", zero), false);
        }
        // What matters is asked: the left one first, and both sides of a comparison.
        String[] asked = {"?|1=1", "?&1=2|1=1", "1=1&?|1=1", "1=2|?|1=1", "(1=2|?)|1=1", "!(1=1&?)", "!(1=2|?)",
            "1=1&1=1&?|1=1", "1=2&1=1|?|1=1"};
        for (String test : asked) {
            dueHolds(test.replace("?", zero), false);
        }
    }

    private static void partsAndTests() {
        Kit.says("C: PARTS with a | between two, one of which must hold; a PART: TESTS with an & between two, "
                + "all of which must");
        String yes = "1=1";
        String no = "1=2";
        for (int bits = 0; bits < 16; bits++) {
            boolean a = (bits & 1) != 0;
            boolean b = (bits & 2) != 0;
            boolean c = (bits & 4) != 0;
            boolean d = (bits & 8) != 0;
            String p = a ? yes : no;
            String q = b ? yes : no;
            String r = c ? yes : no;
            String s = d ? yes : no;
            dueHolds(p + "&" + q + "&" + r + "&" + s, a && b && c && d);
            dueHolds(p + "|" + q + "|" + r + "|" + s, a || b || c || d);
            dueHolds(p + "&" + q + "|" + r + "&" + s, a && b || c && d);
            dueHolds(p + "|" + q + "&" + r + "|" + s, a || b && c || d);
            dueHolds("(" + p + "|" + q + ")&(" + r + "|" + s + ")", (a || b) && (c || d));
            dueHolds("!" + p + "&" + q + "|!" + r + "&!!" + s, !a && b || !c && d);
            dueHolds("!(" + p + "&" + q + ")|!(" + r + "|" + s + ")", !(a && b) || !(c || d));
            dueHolds("!(" + p + "|!(" + q + "&(" + r + "|" + s + ")))", !(a || !(b && (c || d))));
        }
    }

    private static void compares() {
        Kit.says("or E, one of < > =, and E.");
        int[][] pairs = {{0, 0}, {0, 1}, {1, 0}, {5, 5}, {99999, 99998}, {99998, 99999}, {0, 99999}};
        for (int[] pair : pairs) {
            dueHolds(pair[0] + "<" + pair[1], pair[0] < pair[1]);
            dueHolds(pair[0] + ">" + pair[1], pair[0] > pair[1]);
            dueHolds(pair[0] + "=" + pair[1], pair[0] == pair[1]);
            dueHolds("0-" + pair[0] + "<0-" + pair[1], pair[0] > pair[1]);
            dueHolds("0-" + pair[0] + ">0-" + pair[1], pair[0] < pair[1]);
            // A ! turns each of them round, and two turn it back.
            for (char sign : new char[] {'<', '>', '='}) {
                String test = pair[0] + "" + sign + pair[1];
                boolean is = sign == '<' ? pair[0] < pair[1] : sign == '>' ? pair[0] > pair[1] : pair[0] == pair[1];
                dueHolds("!" + test, !is);
                dueHolds("!!" + test, is);
                dueHolds("!(" + test + ")", !is);
                dueHolds("!(" + test + "&1<2)", !is);
                dueHolds("!(2<1|" + test + ")", !is);
            }
        }
    }

    private static void letters() {
        Kit.says("k the KING, p his STEPS LEFT, q the other one's, b his BOW, c the other one's, o his OFFENCE, "
                + "v the other one's, a whether the other one's HAT is on (1, 0), t THE BREATH modulo 100, r the DRAW.");
        TwoKings x = Kit.kings(321, 654);
        Kit.orders(x, "0b12;1b90;0o");
        x.breaths(7);
        // Seven times: of 0 one for the HAT; of 1 the STEPS and the BOW.
        int offence0 = 7;
        int offence1 = 7 * (333 + 78);
        int[][] want = {{0, 321, 654, 12, 90, offence0, offence1, 1, 7}, {1, 654, 321, 90, 12, offence1, offence0, 0, 7}};
        for (int i = 0; i < 9; i++) {
            char letter = "kpqbcovat".charAt(i);
            Kit.law(x, "f1(k=0&" + letter + "=" + want[0][i] + ");f2(k=1&" + letter + "=" + want[1][i] + ")");
            Kit.due(letter + " of 0", x.tried(1, 10), 320);
            Kit.due(letter + " of 1", x.tried(1, 11), 652);
        }
        for (int seed : new int[] {0, 1, 7, 65535}) {
            int first = (25173 * seed + 13849) % 65536;
            int other = (int) ((25173L * first + 13849) % 65536);
            x.seed(seed);
            Kit.law(x, "f1(k=0&r=" + first % 10 + ");f2(k=1&r=" + other % 10 + ")");
            Kit.due("r of 0 by " + seed, x.tried(1, 10), 320);
            Kit.due("r of 1 by " + seed, x.tried(1, 11), 652);
            // One DRAW for each KING in a BREATH, however often it is asked.
            Kit.law(x, "fr(r=r&r+r=2*r)");
            Kit.due("r asked often", x.tried(1, 10), 321 - first % 10);
        }
        // The greatest of each.
        x = Kit.kings(999, 0);
        Kit.orders(x, "0b90");
        x.breaths(10);
        Kit.law(x, "f1(p=999&q=0&b=90&c=0&o=9999&v=0&a=1)");
        Kit.due("of 0", x.tried(1, 10), 998);
        Kit.law(x, "d1(k=1&p=0&q=999&b=0&c=90&o=0&v=9999&a=1)");
        Kit.due("of 1", x.tried(1, 31), 1);
    }

    private static void breathModuloHundred() {
        Kit.says("t THE BREATH modulo 100");
        TwoKings x = Kit.kings(999, 999);
        int gone = 0;
        for (int breath : new int[] {0, 1, 98, 99, 100, 101, 199, 200, 201, 300}) {
            while (gone < breath) {
                gone += x.breaths(Math.min(240, breath - gone));
            }
            Kit.law(x, "f1(t=" + breath % 100 + ")");
            Kit.due("t at " + breath, x.tried(1, 10), 998);
            Kit.law(x, "f1(1=2)");
        }
        Kit.law(x, "f1(t=0)");
        Kit.due("t at 300 and 400 of 101", x.tried(101, 10), 997);
        Kit.due("t at 300 alone of 100", x.tried(100, 10), 998);
    }

    private static void hatsAndLeaving() {
        Kit.says("h his HAT is off (else on; any will do; without an h in THE LAW it stays)");
        String[] laws = {"h(1=1)", "h(1=2)", "h(1=2);h(1=1)", "h(1=1);h(1=2)", "h(1=2);h(1=1);h(1=2)", "h(1=2);h(1=2)",
            "f1(1=2)", "x(1=2)"};
        int[] hats = {0, 1, 0, 0, 0, 1, -1, -1};
        for (int i = 0; i < laws.length; i++) {
            for (int on = 0; on <= 1; on++) {
                TwoKings x = Kit.kings(9, 9);
                Kit.orders(x, on == 1 ? "*h" : "*o");
                Kit.law(x, laws[i]);
                x.breaths(1);
                int want = hats[i] == -1 ? on : hats[i];
                Kit.due("HAT of 0 by " + laws[i] + " that was " + on, x.kingIs(0, 3), want);
                Kit.due("HAT of 1 by " + laws[i] + " that was " + on, x.kingIs(1, 3), want);
            }
        }
        Kit.says("x he LEAVES (any will do; without an x in THE LAW none does)");
        String[] leave = {"x(1=1)", "x(1=2)", "x(1=2);x(k=0)", "x(k=1);x(1=2)", "x(1=2);x(1=1);x(1=2)", "f1(1=1)",
            "h(1=1)", "x(k=0);x(k=1)"};
        int[] left = {3, 0, 1, 2, 3, 0, 0, 3};
        for (int i = 0; i < leave.length; i++) {
            TwoKings x = Kit.kings(9, 9);
            Kit.law(x, leave[i]);
            x.breaths(1);
            Kit.due("LEFT by " + leave[i], x.count(2), left[i]);
        }
    }

    private static void asItIsWhenItBegins() {
        Kit.says("f, d, u, h, x are asked for both, as it is when the BREATH begins.");
        TwoKings x = Kit.kings(50, 60);
        Kit.orders(x, "0b20;1b30");
        // Each would change what the other one sees, if he were asked later.
        Kit.law(x, "f5(1=1);d7(1=1);h(1=1);x(k=1&p=60&q=50&b=30&c=20&o=0&v=0&a=1)");
        Kit.due("KING 1 LEAVES by what he saw", x.tried(1, 2), 2);
        Kit.law(x, "f5(1=1);d7(1=1);h(1=1);x(k=0&p=50&q=60&b=20&c=30&o=0&v=0&a=1)");
        Kit.due("KING 0 LEAVES by what he saw", x.tried(1, 2), 1);
        Kit.law(x, "d10(b=20);u5(b=20)");
        Kit.due("u is asked of the BOW before d", x.tried(1, 30), 25);
        Kit.law(x, "f9(p=50);d3(p=50)");
        Kit.due("d is asked of the STEPS before f", x.tried(1, 30), 23);
        Kit.law(x, "h(k=0);d4(k=1&a=1)");
        Kit.due("a is asked of the HAT before h", x.tried(1, 31), 34);
        Kit.due("and in the next BREATH of that behind it", x.tried(2, 31), 34);
    }
}
