import java.util.ArrayList;
import java.util.List;
import java.util.Random;

/** Promises 5, 8, 9 and 11 to 14: LAWS and BREATHS, some told by hand, many against a second reading of the document. */
public final class BreathTest {
    public static void main(String[] args) {
        wrongInputs();
        bounds();
        refusals();
        letters();
        meetings();
        lastBreath();
        otherLaws();
        Random random = new Random(1807);
        for (int i = 0; i < 3000; i++) {
            compareFault(random);
            compareBreaths(random);
        }
        Kit.end();
    }

    private static TwoKings kings(int first, int other) {
        TwoKings x = new TwoKings();
        x.king(0, first, false);
        x.king(1, other, false);
        return x;
    }

    private static void wrongInputs() {
        TwoKings x = kings(5, 5);
        String before = Kit.picture(x);
        for (int n : new int[] {0, -1, 241, Integer.MAX_VALUE, Integer.MIN_VALUE}) {
            Kit.due("breaths " + n, x.breaths(n), -1);
            Kit.due("tried " + n, x.tried(n, 0), -1);
            Kit.due("meet " + n, x.meet(n, 0), -1);
            Kit.due("leaves " + n, x.leaves(n, 0), -1);
            Kit.due("worst " + n, x.worst(n), -1);
            Kit.due("nearer " + n, x.nearer(n, 0), -1);
        }
        for (int what : new int[] {-1, 3, 9, 12, 19, 22, 29, 32, 40, 110, Integer.MIN_VALUE}) {
            Kit.due("tried what " + what, x.tried(1, what), -1);
        }
        for (int what : new int[] {-1, 2, Integer.MAX_VALUE}) {
            Kit.due("meet what " + what, x.meet(1, what), -1);
            Kit.due("leaves what " + what, x.leaves(1, what), -1);
        }
        Kit.due("nearer what 5", x.nearer(1, 5), -1);
        Kit.due("nearer what -1", x.nearer(1, -1), -1);
        Kit.due("nothing is changed", Kit.picture(x).equals(before), true);
    }

    private static void bounds() {
        TwoKings x = kings(100, 100);
        Kit.law(x, "f12(k=0);f0-3(k=1);d91(k=0);u99999(k=1)");
        Kit.due("f at most 9", x.tried(1, 10), 91);
        Kit.due("f at least 0", x.tried(1, 11), 100);
        Kit.due("d at most 90", x.tried(1, 30), 90);
        Kit.due("the BOW at least 0", x.tried(1, 31), 0);
        Kit.orders(x, "0b85;1b3");
        Kit.law(x, "d20(k=0);u15(k=0);u5(k=1)");
        Kit.due("the BOW by d and u", x.tried(1, 30), 90);
        Kit.due("the BOW 0 to 90", x.tried(1, 31), 0);
        Kit.law(x, "f1(k=1);f2(1=1);f3(1=1)");
        Kit.due("the first RULE that holds", x.tried(1, 10), 98);
        Kit.due("the first RULE that holds for 1", x.tried(1, 11), 99);
        x.king(0, 100, true);
        Kit.law(x, "f9(1=1)");
        Kit.due("half, rounded down", x.tried(1, 10), 96);
        x = kings(999, 0);
        Kit.orders(x, "0b90;0o");
        Kit.due("breaths to the most OFFENCE", x.breaths(20), 20);
        Kit.due("most OFFENCE", x.kingIs(0, 2), 9999);
        Kit.due("OFFENCE grows no more", x.nearer(5, 3), 0);
        x = kings(20, 20);
        x.tolerance(3, 4);
        Kit.orders(x, "0f3;1b4");
        Kit.due("STEPS within TOLERANCE", x.tried(1, 21), 0);
        Kit.orders(x, "0f1;1b5");
        Kit.due("STEPS and BOW beyond TOLERANCE", x.tried(1, 21), 9);
        Kit.due("the other one is not offended", x.tried(1, 20), 0);
    }

    private static void refusals() {
        String[] held = {"1=1|1/0=1", "!(1=2&1/0=1)", "1=2&1/0=1|1=1", "(1=1|5%0=1)&2=2", "!1=2", "2-3-4=0-5",
            "2+3*4=14", "[2+3]*4=20", "7/2=3", "[0-7]/2=0-3", "[0-7]%3=0-1", "7-2*3%4=5", "99999*99999=1409865409",
            "60000*60000<0", "100/10/5=2", "1<2&2>1&3=3", "1=2|2=3|3=3", "!!1=1", "!(1=2|2=3)",
            "[0-32768*65536]/[0-1]<0"};
        String[] not = {"1/0=1", "!1/0=1", "1/0=1|1=1", "!(1/0=1)|1=1", "1=1&1%0=0", "1=1&(1=1|2=2)&1/[1-1]=0",
            "0*[1/0]=0", "0=1%0", "1=2", "1<1", "1>1", "1=1&1=2|2=1", "!1=1", "!(1=1|1/0=1)", "!(!(1/0=0))"};
        for (String test : held) {
            TwoKings x = kings(9, 9);
            if (test.contains("1409865409")) {
                test = test.replace("1409865409", "14098*[10*[10*1000]]+65409");
            }
            Kit.dueLaw(x, "f3(" + test + ")", 1);
            Kit.due(test, x.tried(1, 10), 6);
        }
        for (String test : not) {
            TwoKings x = kings(9, 9);
            Kit.dueLaw(x, "f3(" + test + ");f1(1=1);h(" + test + ")", 3);
            Kit.due(test, x.tried(1, 10), 8);
            Kit.due("no HAT by " + test, x.tried(1, 20), 0);
        }
        TwoKings x = kings(9, 9);
        Kit.law(x, "f3+1/0(1=1);f2(1=1)");
        Kit.due("an E that is REFUSED is 0", x.tried(1, 10), 9);
        Kit.law(x, "f3+[4%k]*0(1=1)");
        Kit.due("an E that is REFUSED for 0 alone", x.tried(1, 11), 6);
        Kit.due("REFUSED for 0", x.tried(1, 10), 9);
    }

    private static void letters() {
        TwoKings x = kings(11, 22);
        x.seed(0);
        x.breaths(1);
        Kit.orders(x, "0b33;1b44;*a999;0o");
        x.breaths(1);
        // The OFFENCE behind it: of 0 one for the HAT; of 1 the STEPS and the BOW.
        int[] of0 = {0, 11, 22, 33, 44, 1, 22, 1, 2};
        int[] of1 = {1, 22, 11, 44, 33, 22, 1, 0, 2};
        for (int i = 0; i < of0.length; i++) {
            String letter = "" + "kpqbcovat".charAt(i);
            Kit.law(x, "f1(k=0&" + letter + "=" + of0[i] + ");f2(k=1&" + letter + "=" + of1[i] + ")");
            Kit.due(letter + " of 0", x.tried(1, 10), 10);
            Kit.due(letter + " of 1", x.tried(1, 11), 20);
        }
        Kit.law(x, "f[t+98]%100(1=1)");
        Kit.due("t counts", x.tried(3, 11), 19);
        x = kings(900, 900);
        x.breaths(101);
        Kit.law(x, "f5(t=1)");
        Kit.due("t modulo 100", x.tried(1, 10), 895);
        x = kings(5, 5);
        Kit.orders(x, "0o");
        Kit.law(x, "f1(1=1)");
        x.breaths(1);
        Kit.due("without an h the HAT stays off", x.kingIs(0, 3), 0);
        Kit.law(x, "h(1=2);h(k=1);h(1=2)");
        x.breaths(1);
        Kit.due("else the HAT is on", x.kingIs(0, 3), 1);
        Kit.due("any h will do", x.kingIs(1, 3), 0);
        // Asked as it is when the BREATH begins: 1 sees 0's HAT as it was.
        x = kings(5, 5);
        Kit.law(x, "h(k=0);f1(a=1)");
        Kit.due("a of the beginning", x.tried(1, 11), 4);
        Kit.due("a of the next", x.tried(2, 11), 4);
    }

    private static void meetings() {
        TwoKings x = kings(4, 3);
        Kit.law(x, "f1(1=1)");
        Kit.due("meet", x.meet(240, 0), 4);
        Kit.due("meet first", x.meet(240, 1), 1);
        Kit.due("meet in 4", x.meet(4, 0), 4);
        Kit.due("meet in 3", x.meet(3, 0), -2);
        Kit.due("meet in 3, who", x.meet(3, 1), -2);
        x.king(1, 4, false);
        Kit.due("both at once", x.meet(9, 1), 2);
        x.king(1, 0, false);
        Kit.due("1 is there now", x.meet(9, 1), 1);
        x.king(0, 0, false);
        Kit.due("they have", x.meet(9, 0), 0);
        Kit.due("they have, who", x.meet(9, 1), 2);
        Kit.due("tried none", x.tried(9, 0), 0);
        Kit.due("tried met", x.tried(9, 1), 1);
        x = kings(2, 3);
        Kit.law(x, "f1(1=1);x(t=2)");
        Kit.due("met in the BREATH of leaving", x.meet(9, 0), 3);
        Kit.due("left in the BREATH of meeting", x.leaves(9, 1), 3);
        Kit.due("both left", x.leaves(9, 0), 2);
        Kit.due("tried left", x.tried(9, 2), 3);
        Kit.due("leaves not in 2", x.leaves(2, 0), -2);
        x.breaths(9);
        Kit.due("have met", x.meet(1, 0), 0);
        Kit.due("have left", x.leaves(1, 1), 0);
        Kit.due("have left, who", x.leaves(1, 0), 2);
        x = kings(9, 2);
        Kit.law(x, "x(k=0&t=1);f3(k=0);f1(k=1&t>0)");
        Kit.due("worst now, too", x.worst(1), 7);
        Kit.due("0 leaves", x.leaves(5, 0), 0);
        Kit.due("0 leaves behind", x.leaves(5, 1), 2);
        Kit.due("breaths till then", x.breaths(240), 2);
        Kit.due("0 has left", x.count(2), 1);
        Kit.due("0 has left, asked", x.leaves(3, 0), 0);
        Kit.due("behind 0", x.leaves(3, 1), 0);
        Kit.due("no meeting then", x.meet(3, 0), -2);
        Kit.due("no BREATH then", x.tried(3, 0), 0);
        Kit.due("nearer of none", x.nearer(3, 1), 0);
        Kit.due("worst of none", x.worst(3), 2);
        x = kings(6, 4);
        Kit.law(x, "f2(k=0);f1(k=1&t>1)");
        // 4 and 4; 2 and 4; 0 and 3.
        int[] nearer = {2, 0, 1, 0, 2};
        for (int what = 0; what < 5; what++) {
            Kit.due("nearer " + what, x.nearer(3, what), nearer[what]);
        }
    }

    private static void lastBreath() {
        TwoKings x = kings(5, 5);
        for (int i = 0; i < 41; i++) {
            x.breaths(240);
        }
        Kit.due("breaths up to 9999", x.breaths(240), 9999 - 41 * 240);
        Kit.due("THE BREATH", x.count(0), 9999);
        int draws = x.count(6);
        Kit.due("none goes by", x.breaths(1), 0);
        Kit.due("none is tried", x.tried(1, 0), 0);
        Kit.due("nothing is drawn", x.count(6), draws);
        Kit.due("keep there", x.keep(), 9999);
    }

    /** What a LAW leaves behind must not matter to the next one; all of sixteen RULES are asked. */
    private static void otherLaws() {
        TwoKings x = kings(50, 50);
        StringBuilder sixteen = new StringBuilder();
        for (int i = 0; i < 15; i++) {
            sixteen.append("d").append(i + 1).append("(b=").append(i).append(");");
        }
        sixteen.append("x(b>99)");
        Kit.dueLaw(x, sixteen.toString(), 16);
        Kit.due("sixteen RULES", x.tried(3, 30), 1 + 2 + 4);
        Kit.dueLaw(x, Kit.times("x(1=2)", 15, ";") + ";x(k=1)", 16);
        Kit.due("the sixteenth RULE", x.leaves(1, 0), 1);
        Kit.dueLaw(x, "f1(1=1);h(1=1);x(1=1)", 3);
        Kit.dueLaw(x, "f1(1=2)", 1);
        Kit.due("no x", x.leaves(5, 0), -2);
        Kit.due("no f", x.tried(5, 10), 50);
        Kit.dueLaw(x, "h(k=0);x(1=1);f9(1=1", -1020);
        Kit.due("no h of a FAULT", x.tried(5, 20), 0);
        Kit.due("no x of a FAULT", x.tried(5, 0), 5);
    }

    // ---- a second reading of THE LAW

    private static final String LETTERS = "kpqbcovatr";

    private static String someE(Random random, int depth) {
        StringBuilder text = new StringBuilder();
        int terms = 1 + (random.nextInt(3) == 0 ? random.nextInt(3) : 0);
        for (int i = 0; i < terms; i++) {
            if (i > 0) {
                text.append("+-*/%".charAt(random.nextInt(5)));
            }
            int kind = random.nextInt(8);
            if (kind == 0 && depth > 0) {
                text.append('[').append(someE(random, depth - 1)).append(']');
            } else if (kind < 4) {
                text.append(random.nextInt(kind == 1 ? 100000 : 6));
            } else {
                text.append(LETTERS.charAt(random.nextInt(10)));
            }
        }
        return text.toString();
    }

    private static String someC(Random random, int depth) {
        StringBuilder text = new StringBuilder();
        int tests = 1 + (random.nextInt(2) == 0 ? random.nextInt(3) : 0);
        for (int i = 0; i < tests; i++) {
            if (i > 0) {
                text.append(random.nextBoolean() ? '&' : '|');
            }
            int kind = random.nextInt(6);
            if (kind == 0 && depth > 0) {
                text.append('(').append(someC(random, depth - 1)).append(')');
            } else if (kind == 1 && depth > 1) {
                text.append("!(").append(someC(random, depth - 2)).append(')');
            } else {
                text.append(kind == 2 && depth > 0 ? "!" : "");
                int left = kind == 2 ? depth - 1 : depth;
                text.append(someE(random, left)).append("<>=".charAt(random.nextInt(3))).append(someE(random, left));
            }
        }
        return text.toString();
    }

    private static String someLaw(Random random, int most) {
        StringBuilder text = new StringBuilder();
        int rules = 1 + random.nextInt(6);
        for (int i = 0; i < rules; i++) {
            char letter = "ffdduhx".charAt(random.nextInt(7));
            String e = letter == 'h' || letter == 'x' ? "" : someE(random, 3);
            String rule = letter + e + "(" + someC(random, 5) + ")";
            if (text.length() + rule.length() + 1 > most) {
                break;
            }
            text.append(i == 0 ? "" : ";").append(rule);
        }
        return text.length() == 0 ? "f2(1=1)" : text.toString();
    }

    /** The FAULT of a text, or its RULES, by a row of what is open and what may come next. */
    private static int faultOf(String text) {
        List<Character> open = new ArrayList<>();
        List<Character> around = new ArrayList<>();
        char state = 'R';
        char side = 'E';
        int digits = 0;
        int rules = 0;
        for (int i = 0; i < text.length(); i++) {
            char c = text.charAt(i);
            boolean digit = c >= '0' && c <= '9';
            if (state == '9' && digit) {
                digits++;
                if (digits > 5) {
                    return -2000 - i;
                }
                continue;
            }
            if (state == '9') {
                state = 'A';
            }
            if (state == 'A' && side == 'T' && "&|)".indexOf(c) >= 0) {
                state = 'D';
            }
            if (state == 'D') {
                while (open.size() > 0 && open.get(open.size() - 1) == '!') {
                    open.remove(open.size() - 1);
                }
            }
            boolean opens = state == 'F' && c == '[' || state == 'T' && "([!".indexOf(c) >= 0
                    || state == 'O' && c == '(' || state == 'A' && side == 'E' && c == '(';
            if (opens && open.size() == 6) {
                return -5000 - i;
            }
            if (state == 'R' && "fduhx".indexOf(c) >= 0) {
                rules++;
                if (rules > 16) {
                    return -4000 - i;
                }
                state = c == 'h' || c == 'x' ? 'O' : 'F';
                side = 'E';
            } else if (opens) {
                open.add(c);
                if (c == '[') {
                    around.add(state == 'T' ? 'L' : side);
                    side = 'B';
                }
                state = c == '[' ? 'F' : 'T';
            } else if ((state == 'F' || state == 'T') && (digit || LETTERS.indexOf(c) >= 0)) {
                side = state == 'T' ? 'L' : side;
                state = digit ? '9' : 'A';
                digits = 1;
            } else if (state == 'A' && "+-*/%".indexOf(c) >= 0) {
                state = 'F';
            } else if (state == 'A' && side == 'B' && c == ']') {
                open.remove(open.size() - 1);
                side = around.remove(around.size() - 1);
            } else if (state == 'A' && side == 'L' && "<>=".indexOf(c) >= 0) {
                side = 'T';
                state = 'F';
            } else if (state == 'D' && (c == '&' || c == '|')) {
                state = 'T';
            } else if (state == 'D' && c == ')') {
                open.remove(open.size() - 1);
                state = open.isEmpty() ? 'Z' : 'D';
            } else if (state == 'Z' && c == ';') {
                state = 'R';
            } else {
                return -1000 - i;
            }
        }
        return state == 'Z' ? rules : -1000 - text.length();
    }

    private static void compareFault(Random random) {
        StringBuilder text = new StringBuilder(someLaw(random, 200));
        String signs = "fduhx()[]!&|<>=+-*/%;0123456789kpqbcovatr e";
        int changes = random.nextInt(4);
        for (int i = 0; i < changes && text.length() > 1; i++) {
            int at = random.nextInt(text.length());
            char sign = random.nextInt(3) == 0 ? "([!".charAt(random.nextInt(3)) : signs.charAt(random.nextInt(signs.length()));
            switch (random.nextInt(4)) {
                case 0: text.deleteCharAt(at); break;
                case 1: text.insert(at, sign); break;
                case 2: text.setCharAt(at, sign); break;
                default: text.insert(at, text.substring(at, Math.min(text.length(), at + 1 + random.nextInt(5)))); break;
            }
        }
        Kit.dueLaw(new TwoKings(), text.toString(), faultOf(text.toString()));
    }

    /** Reckons a text anew from its letters each time; a division by 0 is thrown out of all of it. */
    private static final class Reckoner {
        private final String text;
        private final int[] seen;
        private int at;

        Reckoner(String text, int at, int[] seen) {
            this.text = text;
            this.at = at;
            this.seen = seen;
        }

        boolean choice(boolean asked) {
            boolean is = part(asked);
            while (text.charAt(at) == '|') {
                at++;
                boolean next = part(asked && !is);
                is = is || next;
            }
            return is;
        }

        private boolean part(boolean asked) {
            boolean is = test(asked);
            while (text.charAt(at) == '&') {
                at++;
                boolean next = test(asked && is);
                is = is && next;
            }
            return is;
        }

        private boolean test(boolean asked) {
            char c = text.charAt(at);
            if (c == '!') {
                at++;
                return !test(asked);
            }
            if (c == '(') {
                at++;
                boolean is = choice(asked);
                at++;
                return is;
            }
            int left = sum(asked);
            char sign = text.charAt(at++);
            int right = sum(asked);
            return sign == '<' ? left < right : sign == '>' ? left > right : left == right;
        }

        int sum(boolean asked) {
            int is = term(asked);
            while ("+-".indexOf(text.charAt(at)) >= 0) {
                char sign = text.charAt(at++);
                int next = term(asked);
                is = sign == '+' ? is + next : is - next;
            }
            return is;
        }

        private int term(boolean asked) {
            int is = factor(asked);
            while ("*/%".indexOf(text.charAt(at)) >= 0) {
                char sign = text.charAt(at++);
                int next = factor(asked);
                if (sign == '*') {
                    is *= next;
                } else if (asked) {
                    is = sign == '/' ? is / next : is % next;
                }
            }
            return is;
        }

        private int factor(boolean asked) {
            char c = text.charAt(at++);
            if (c == '[') {
                int is = sum(asked);
                at++;
                return is;
            }
            if (LETTERS.indexOf(c) >= 0) {
                return seen[LETTERS.indexOf(c)];
            }
            int is = c - '0';
            while (Character.isDigit(text.charAt(at))) {
                is = is * 10 + text.charAt(at++) - '0';
            }
            return is;
        }
    }

    private static int skipE(String rule) {
        int depth = 0;
        int at = 1;
        while (depth > 0 || rule.charAt(at) != '(') {
            depth += rule.charAt(at) == '[' ? 1 : rule.charAt(at) == ']' ? -1 : 0;
            at++;
        }
        return at;
    }

    private static boolean holds(String rule, int[] seen) {
        try {
            return new Reckoner(rule + " ", skipE(rule) + 1, seen).choice(true);
        } catch (ArithmeticException byZero) {
            return false;
        }
    }

    private static int amount(String[] rules, char letter, int most, int[] seen) {
        for (String rule : rules) {
            if (rule.charAt(0) == letter && holds(rule, seen)) {
                try {
                    return Math.max(0, Math.min(most, new Reckoner(rule, 1, seen).sum(true)));
                } catch (ArithmeticException byZero) {
                    return 0;
                }
            }
        }
        return 0;
    }

    private static boolean any(String[] rules, char letter, int[] seen) {
        for (String rule : rules) {
            if (rule.charAt(0) == letter && holds(rule, seen)) {
                return true;
            }
        }
        return false;
    }

    /** KINGS as rows: STEPS, BOW, OFFENCE, HAT on, LIMPS, LEFT; then THE BREATH and X. */
    private static int[][] next(int[][] now, String law, int steps, int degrees) {
        if (now[0][0] + now[1][0] == 0 || now[0][5] + now[1][5] > 0 || now[2][0] == 9999) {
            return null;
        }
        String[] rules = law.isEmpty() ? new String[0] : law.split(";");
        int[][] then = {now[0].clone(), now[1].clone(), now[2].clone()};
        for (int k = 0; k < 2; k++) {
            then[2][1] = (int) ((25173L * then[2][1] + 13849) % 65536);
            int[] me = now[k];
            int[] other = now[1 - k];
            int[] seen = {k, me[0], other[0], me[1], other[1], me[2], other[2], other[3], now[2][0] % 100, then[2][1] % 10};
            int f = amount(rules, 'f', 9, seen);
            then[k][0] = Math.max(0, me[0] - (me[4] == 1 ? f / 2 : f));
            then[k][1] = Math.max(0, Math.min(90, me[1] + amount(rules, 'd', 90, seen) - amount(rules, 'u', 90, seen)));
            if ((";" + law).contains(";h")) {
                then[k][3] = any(rules, 'h', seen) ? 0 : 1;
            }
            then[k][5] = any(rules, 'x', seen) ? 1 : 0;
        }
        for (int k = 0; k < 2; k++) {
            int[] me = then[k];
            int[] other = then[1 - k];
            me[2] += me[0] - other[0] > steps ? me[0] - other[0] : 0;
            me[2] += me[1] - other[1] > degrees ? me[1] - other[1] : 0;
            me[2] += me[3] < other[3] ? 1 : 0;
            me[2] = Math.min(9999, me[2]);
        }
        then[2][0]++;
        return then;
    }

    private static void compareBreaths(Random random) {
        TwoKings x = new TwoKings();
        int[][] now = new int[3][6];
        now[2][1] = random.nextInt(65536);
        x.seed(now[2][1]);
        int steps = random.nextInt(4) * random.nextInt(34);
        int degrees = random.nextInt(3) * random.nextInt(46);
        x.tolerance(steps, degrees);
        for (int k = 0; k < 2; k++) {
            now[k][0] = random.nextInt(random.nextBoolean() ? 30 : 1000);
            now[k][1] = random.nextInt(3) == 0 ? random.nextInt(91) : 0;
            now[k][3] = random.nextInt(4) == 0 ? 0 : 1;
            now[k][4] = random.nextInt(3) == 0 ? 1 : 0;
            x.king(k, now[k][0], now[k][4] == 1);
            Kit.orders(x, k + "b" + now[k][1] + ";" + k + (now[k][3] == 1 ? "h" : "o"));
        }
        String law = someLaw(random, 240);
        if (faultOf(law) < 0) {
            return;
        }
        Kit.dueLaw(x, law, law.split(";").length);
        int n = 1 + random.nextInt(12);
        int[][] then = now;
        int gone = 0;
        int worst = Math.abs(now[0][0] - now[1][0]);
        int[] nearer = new int[5];
        int first = (now[0][0] == 0 ? 1 : 0) + (now[1][0] == 0 ? 2 : 0);
        while (gone < n && next(then, law, steps, degrees) != null) {
            int[][] before = then;
            then = next(then, law, steps, degrees);
            gone++;
            worst = Math.max(worst, Math.abs(then[0][0] - then[1][0]));
            nearer[then[0][0] < then[1][0] ? 0 : then[0][0] > then[1][0] ? 1 : 2]++;
            nearer[3] += then[0][2] > before[0][2] ? 1 : 0;
            nearer[4] += then[1][2] > before[1][2] ? 1 : 0;
            first = first != 0 ? first : (then[0][0] == 0 ? 1 : 0) + (then[1][0] == 0 ? 2 : 0);
        }
        boolean met = then[0][0] + then[1][0] == 0;
        int left = then[0][5] + 2 * then[1][5];
        String before = Kit.picture(x);
        String name = law + ": ";
        Kit.due(name + "tried", x.tried(n, 0), gone);
        Kit.due(name + "tried met", x.tried(n, 1), met ? 1 : 0);
        Kit.due(name + "tried left", x.tried(n, 2), left);
        for (int k = 0; k < 2; k++) {
            Kit.due(name + "tried steps", x.tried(n, 10 + k), then[k][0]);
            Kit.due(name + "tried offence", x.tried(n, 20 + k), then[k][2]);
            Kit.due(name + "tried bow", x.tried(n, 30 + k), then[k][1]);
        }
        Kit.due(name + "meet", x.meet(n, 0), met ? gone : -2);
        Kit.due(name + "meet who", x.meet(n, 1), met ? first - 1 : -2);
        Kit.due(name + "leaves who", x.leaves(n, 0), left > 0 ? left - 1 : -2);
        Kit.due(name + "leaves", x.leaves(n, 1), left > 0 ? gone : -2);
        Kit.due(name + "worst", x.worst(n), worst);
        for (int what = 0; what < 5; what++) {
            Kit.due(name + "nearer " + what, x.nearer(n, what), nearer[what]);
        }
        Kit.due(name + "nothing is changed", Kit.picture(x).equals(before), true);
        Kit.due(name + "breaths", x.breaths(n), gone);
        for (int k = 0; k < 2; k++) {
            for (int what = 0; what < 6; what++) {
                Kit.due(name + "kingIs " + what, x.kingIs(k, what), then[k][what]);
            }
        }
        Kit.due(name + "X", x.count(6), then[2][1]);
        Kit.due(name + "THE BREATH", x.count(0), then[2][0]);
    }
}
