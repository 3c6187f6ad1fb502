/** The bounds of THE LAW's text, each FAULT at its place, and what stays then: promise 5. */
public final class LawBoundsTest {
    private static final String DIGITS = "0123456789";
    private static final String LETTERS = "kpqbcovatr";
    private static final String SIGNS = "+-*/%";
    private static final String FACTOR = DIGITS + LETTERS + "[";
    private static final String TEST = FACTOR + "(!";

    public static void main(String[] args) {
        amountPlaces();
        testPlaces();
        behindRules();
        blanks();
        length();
        sixteenRules();
        numbers();
        sixthDigit();
        seventhOpen();
        openInOneAnother();
        firstFromTheLeft();
        theOneBefore();
        Kit.end();
    }

    /** Behind the text ahead, each byte: one that goes on (the end can't stand behind it), one that ends, or a FAULT 1. */
    private static void only(String ahead, String goesOn, String ends) {
        int rules = ahead.split(";", -1).length;
        for (int b = 0; b <= 255; b++) {
            String text = ahead + (char) b;
            int want = goesOn.indexOf(b) >= 0 ? -1000 - text.length()
                    : ends.indexOf(b) >= 0 ? rules : -1000 - ahead.length();
            TwoKings x = new TwoKings();
            Kit.due("law " + ahead + " and byte " + b, Kit.law(x, text), want);
            Kit.due("RULES behind " + ahead + " and byte " + b, x.count(4), Math.max(0, want));
            Kit.due("the tape behind " + ahead + " and byte " + b, x.count(5), 0);
        }
    }

    private static void amountPlaces() {
        Kit.says("RULES (16 at most) with a ; (59) between two: a letter, E, and (C), of h, x only (C)");
        only("", "fduhx", "");
        for (String letter : new String[] {"f", "d", "u"}) {
            only(letter, FACTOR, "");
            only(letter + "1", DIGITS + SIGNS + "(", "");
            only(letter + "k", SIGNS + "(", "");
        }
        only("h", "(", "");
        only("x", "(", "");
        Kit.says("E: TERMS with + or - between two; a TERM: FACTORS with one of * / % between two");
        for (int i = 0; i < SIGNS.length(); i++) {
            only("f1" + SIGNS.charAt(i), FACTOR, "");
            only("f1" + SIGNS.charAt(i) + "k", SIGNS + "(", "");
        }
        only("f1234", DIGITS + SIGNS + "(", "");
        Kit.says("a FACTOR: [E], a number of one to five digits, or a letter");
        for (int i = 0; i < LETTERS.length(); i++) {
            only("f" + LETTERS.charAt(i), SIGNS + "(", "");
        }
        only("f[", FACTOR, "");
        only("f[1", DIGITS + SIGNS + "]", "");
        only("f[k", SIGNS + "]", "");
        only("f[1+", FACTOR, "");
        only("f[[1", DIGITS + SIGNS + "]", "");
        only("f[[1]", SIGNS + "]", "");
        only("f[1]", SIGNS + "(", "");
        only("f1*[1]", SIGNS + "(", "");
    }

    private static void testPlaces() {
        Kit.says("a TEST: !TEST, (C), or E, one of < > =, and E.");
        only("x(", TEST, "");
        only("f1(", TEST, "");
        only("x(!", TEST, "");
        only("x(!!", TEST, "");
        only("x((", TEST, "");
        only("x(!(", TEST, "");
        only("x(1", DIGITS + SIGNS + "<>=", "");
        only("x(r", SIGNS + "<>=", "");
        only("x([1]", SIGNS + "<>=", "");
        only("x([1", DIGITS + SIGNS + "]", "");
        only("x(1+", FACTOR, "");
        for (String sign : new String[] {"<", ">", "="}) {
            only("x(1" + sign, FACTOR, "");
            only("x(1" + sign + "1", DIGITS + SIGNS + "&|", ")");
            only("x(1" + sign + "k", SIGNS + "&|", ")");
        }
        only("x(1=1+", FACTOR, "");
        only("x(1=[", FACTOR, "");
        only("x(1=[1]", SIGNS + "&|", ")");
        only("x(!1=k", SIGNS + "&|", ")");
        only("x((1=k", SIGNS + "&|)", "");
        only("x((1=k)", "&|", ")");
        only("x(!(1=k)", "&|", ")");
        only("x(!(1=k", SIGNS + "&|)", "");
        Kit.says("C: PARTS with a | between two, one of which must hold; a PART: TESTS with an & between two");
        only("x(1=k&", TEST, "");
        only("x(1=k|", TEST, "");
        only("x(1=k&p", SIGNS + "<>=", "");
        only("x(1=k|p=q", SIGNS + "&|", ")");
        only("x((1=k)&", TEST, "");
        only("x((1=k)|", TEST, "");
    }

    private static void behindRules() {
        Kit.says("RULES (16 at most) with a ; (59) between two");
        only("x(1=1)", ";", "");
        only("f1(1=1)", ";", "");
        only("x(1=1);", "fduhx", "");
        only("x(1=1);h", "(", "");
        only("x(1=1);d", FACTOR, "");
        only("x(1=1);h(1=k", SIGNS + "&|", ")");
        only("x(1=1);h(1=1);u9(k=r", SIGNS + "&|", ")");
        Kit.says("1 what can't stand there (the end, too)");
        String[] texts = {"f(1=1)", "h1(1=1)", "x1(1=1)", "f-1(1=1)", "f+1(1=1)", "f()", "x()", "x(1)", "x(k)", "x((1)=1)",
            "x(1=(1))", "x((1=1)=1)", "x(1=1=1)", "x(1<=1)", "x(1>=1)", "x(1!=1)", "x(1=1&&1=1)", "x(1=1||1=1)",
            "x(!1)", "x(!(1))", "x(1=!1)", "x(&1=1)", "x(1=1|)", "f[](1=1)", "f[1(1=1)", "f1](1=1)", "f(1)(1=1)",
            "x[1=1]", "x([1=1])", "f1(1=1)(1=1)", "f1k(1=1)", "fk1(1=1)", "x(1=1);;x(1=1)", ";x(1=1)", "x(1=1),x(1=1)",
            "x(-1=1)", "x(1=-1)", "f1--1(1=1)", "f1(1=1", "x((1=1)", "x(1=1))"};
        int[] places = {1, 1, 1, 1, 1, 1, 2, 3, 3, 4,
            4, 7, 5, 4, 4, 3, 6, 6,
            4, 5, 4, 2, 6, 2, 3, 2, 1,
            1, 4, 7, 2, 2, 7, 0, 6,
            2, 4, 3, 6, 7, 6};
        for (int i = 0; i < texts.length; i++) {
            Kit.dueLaw(new TwoKings(), texts[i], -1000 - places[i]);
        }
    }

    private static void blanks() {
        Kit.says("THE LAW: a TEXT of at most 240 bytes, no blanks (none at first)");
        String law = "f12+[k](!1<p&(b=2)|r>3);x(t=9)";
        Kit.dueLaw(new TwoKings(), law, 2);
        for (int i = 0; i <= law.length(); i++) {
            Kit.dueLaw(new TwoKings(), law.substring(0, i) + " " + law.substring(i), -1000 - i);
        }
    }

    private static void length() {
        Kit.says("THE LAW: a TEXT of at most 240 bytes");
        TwoKings x = Kit.kings(99, 99);
        // The last TEST decides, so all of 240 bytes must be there.
        String tests = Kit.times("1=1", 58, "&");
        String holds = "f12(" + tests + "&1=1)";
        String not = "f12(" + tests + "&1=2)";
        Kit.due("length", holds.length(), 240);
        Kit.dueLaw(x, holds, 1);
        Kit.due("all of it holds", x.tried(1, 10), 90);
        Kit.dueLaw(x, not, 1);
        Kit.due("the last TEST does not hold", x.tried(1, 10), 99);
        Kit.dueLaw(x, holds.substring(0, 239) + "&", -1240);
        Kit.dueLaw(x, "f012(" + tests + "&1=1", -1240);
        Kit.text(x, "f012(" + tests + "&1=1)");
        Kit.due("241 bytes", x.law(241), -1);
        Kit.due("the tape stays", x.count(5), 260);
        Kit.due("THE LAW stays", x.count(4), 1);
        // As many signs as can be, and as many open values.
        String signs = "f9" + Kit.times("*1", 60, "") + Kit.times("-0", 55, "") + "(1=1)";
        Kit.due("length of signs", signs.length(), 237);
        x = Kit.kings(99, 99);
        Kit.dueLaw(x, signs, 1);
        Kit.due("f of it", x.tried(1, 10), 90);
        String deep = "f1+1*[1+1*[1+1*[1+1*[1+1*[1+1*[1+1*2]]]]]](9+1*[1+1*[1+1*[1+1*[1+1*2]]]]=9+1*[1+1*[1+1*[1+1*[1+1*3]]]]-1)";
        Kit.dueLaw(x, deep, 1);
        Kit.due("f of what is deep", x.tried(1, 10), 90);
    }

    private static void sixteenRules() {
        Kit.says("RULES (16 at most)");
        for (int n = 1; n <= 16; n++) {
            TwoKings x = Kit.kings(99, 99);
            Kit.dueLaw(x, Kit.times("d1(k=9)", n - 1, ";") + (n > 1 ? ";" : "") + "f9(k=1)", n);
            Kit.due("RULES", x.count(4), n);
            Kit.due("the last one of " + n + " is asked", x.tried(1, 11), 90);
        }
        Kit.says("4 a 17th RULE, at its letter (if that can stand there)");
        String sixteen = Kit.times("x(1=2)", 16, ";");
        for (int b = 0; b <= 255; b++) {
            TwoKings x = new TwoKings();
            Kit.dueLaw(x, sixteen + ";" + (char) b, "fduhx".indexOf(b) >= 0 ? -4112 : -1112);
            Kit.due("no RULES", x.count(4), 0);
        }
        TwoKings x = new TwoKings();
        Kit.dueLaw(x, sixteen + ";", -1112);
        Kit.dueLaw(x, sixteen + ";f1(1=1)", -4112);
        Kit.dueLaw(x, sixteen + ";h(1=1);x(1=1)", -4112);
        Kit.dueLaw(x, sixteen + ";f(1=1)", -4112);
        Kit.dueLaw(x, sixteen + "&", -1111);
        Kit.due("no RULES", x.count(4), 0);
    }

    private static void numbers() {
        Kit.says("a number of one to five digits");
        String[] numbers = {"0", "7", "10", "99", "100", "999", "1000", "9999", "10000", "65535", "65536", "99999", "00000",
            "00001", "00099"};
        for (String number : numbers) {
            TwoKings x = Kit.kings(99, 99);
            // Made of small numbers, so that a number that is read wrongly is not the same.
            int value = Integer.parseInt(number);
            String same = "[" + value / 1000 + "*10+" + value / 100 % 10 + "]*100+" + value % 100;
            Kit.dueLaw(x, "f1(" + number + "=" + same + ")", 1);
            Kit.due(number, x.tried(1, 10), 98);
            Kit.dueLaw(x, "f1(" + same + "=" + number + ")", 1);
            Kit.due("= " + number, x.tried(1, 10), 98);
            Kit.dueLaw(x, "f" + number + "-" + value + "+5(1=1)", 1);
            Kit.due("f of " + number, x.tried(1, 10), 94);
        }
    }

    private static void sixthDigit() {
        Kit.says("2 a sixth digit, at it");
        String[] ahead = {"f12345", "d00000", "u99999", "f[12345", "f1+12345", "f1*12345", "x(12345", "x(1=12345",
            "x(1<00000", "x(!12345", "x((12345", "x(1=[12345", "x(1=1&12345", "x(1=1|1=12345", "h(1=1);f12345",
            "f1(1>99999"};
        for (String text : ahead) {
            for (int b = '0'; b <= '9'; b++) {
                TwoKings x = new TwoKings();
                Kit.dueLaw(x, text + (char) b, -2000 - text.length());
                Kit.dueLaw(x, text + (char) b + "7", -2000 - text.length());
                Kit.dueLaw(x, text + (char) b + " ", -2000 - text.length());
            }
            // Five are fine: what comes behind can't stand there.
            Kit.dueLaw(new TwoKings(), text + "k", -1000 - text.length());
            Kit.dueLaw(new TwoKings(), text, -1000 - text.length());
        }
    }

    private static void seventhOpen() {
        Kit.says("5 a seventh of ( [ ! that are open in one another, at it (the ( of the RULE counts");
        for (int bits = 0; bits < 32; bits++) {
            for (int brackets = 0; brackets <= 5; brackets++) {
                // Five of them inside the RULE's (: some of ( and !, then some [ inside these.
                StringBuilder open = new StringBuilder();
                StringBuilder close = new StringBuilder();
                for (int i = 0; i < 5 - brackets; i++) {
                    boolean not = (bits >> i & 1) != 0;
                    open.append(not ? '!' : '(');
                    close.append(not ? "" : ")");
                }
                String within = Kit.times("[", brackets, "") + "1" + Kit.times("]", brackets, "");
                String six = "x(" + open + within + "=1" + close + ")";
                Kit.dueLaw(new TwoKings(), six, 1);
                Kit.dueLaw(new TwoKings(), "x(" + open + "1=" + within + close + ")", 1);
                for (char seventh : new char[] {'(', '[', '!'}) {
                    boolean stands = brackets == 0 || seventh == '[';
                    String text = "x(" + open + Kit.times("[", brackets, "") + seventh;
                    Kit.dueLaw(new TwoKings(), text, stands ? -5007 : -1007);
                    Kit.dueLaw(new TwoKings(), text + "1=1", stands ? -5007 : -1007);
                }
            }
        }
        Kit.says("the E of a RULE stands ahead of it)");
        for (String letter : new String[] {"f", "d", "u"}) {
            String six = letter + "[[[[[[1]]]]]]";
            Kit.dueLaw(new TwoKings(), six + "(1=1)", 1);
            Kit.dueLaw(new TwoKings(), six + "((((((1=1))))))", 1);
            Kit.dueLaw(new TwoKings(), six + "(((((((1=1)))))))", -5020);
            Kit.dueLaw(new TwoKings(), six + "(!!!!!1=1)", 1);
            Kit.dueLaw(new TwoKings(), six + "(!!!!!!1=1)", -5020);
            Kit.dueLaw(new TwoKings(), letter + "[[[[[[[", -5007);
            Kit.dueLaw(new TwoKings(), letter + "1+[[[[[[[1]]]]]]](1=1)", -5009);
        }
    }

    private static void openInOneAnother() {
        Kit.says("a ! is open till its TEST ends");
        Kit.dueLaw(new TwoKings(), "x(!!!!!1=1&!!!!!1=1)", 1);
        Kit.dueLaw(new TwoKings(), "x(!!!!!1=1|!!!!!1=1)", 1);
        Kit.dueLaw(new TwoKings(), "x((!!!!1=1)&((((1=1)))))", 1);
        Kit.dueLaw(new TwoKings(), "x(!(!(!1=1)))", 1);
        Kit.dueLaw(new TwoKings(), "x(!(!(!(1=1))))", -5007);
        Kit.dueLaw(new TwoKings(), "x(!!!!!1=1&!!!!!!1=1)", -5016);
        Kit.dueLaw(new TwoKings(), "x(!!!!!1=1|!!!!!!1=1)", -5016);
        // It is open in both sides of its TEST, and round a ( ) to its end.
        Kit.dueLaw(new TwoKings(), "x(!!!!!1=[1])", -5009);
        Kit.dueLaw(new TwoKings(), "x(!!!!![1]=1)", -5007);
        Kit.dueLaw(new TwoKings(), "x(!!!!1=[1])", 1);
        Kit.dueLaw(new TwoKings(), "x(!!!!1=[[1]])", -5009);
        Kit.dueLaw(new TwoKings(), "x(!!(1=1&!!1=1))", 1);
        Kit.dueLaw(new TwoKings(), "x(!!(1=1&!!!1=1))", -5011);
        Kit.dueLaw(new TwoKings(), "x(!!(1=1)&!!!!!1=1)", 1);
        Kit.dueLaw(new TwoKings(), "x(!!(1=1)&!!!!!!1=1)", -5015);
        Kit.says("that are open in one another");
        Kit.dueLaw(new TwoKings(), "x((1=1)&(1=1)&(1=1)&(1=1)&(1=1)&(1=1)&(1=1)&(1=1))", 1);
        Kit.dueLaw(new TwoKings(), "x([1]+[1]+[1]+[1]+[1]+[1]+[1]=[1]*[1]*[1]*[1]*[1]*[1])", 1);
        Kit.dueLaw(new TwoKings(), "f[1]+[1]+[1]+[1]+[1]+[1]+[1]+[1](1=1)", 1);
        Kit.dueLaw(new TwoKings(), "f[[[[[[1]]]]]]+[[[[[[1]]]]]]*[[[[[[1]]]]]](1=1)", 1);
        Kit.dueLaw(new TwoKings(), "f[[[[[[1]]]]]]+[[[[[[[1]]]]]]](1=1)", -5021);
        Kit.dueLaw(new TwoKings(), "x([[[[[1]]]]]=[[[[[1]]]]])", 1);
        Kit.dueLaw(new TwoKings(), "x([[[[[1]]]]]=[[[[[[1]]]]]])", -5019);
        Kit.dueLaw(new TwoKings(), "x((((((1=1)))))|(((((1=1))))))", 1);
        Kit.dueLaw(new TwoKings(), "x((((((1=1)))))|((((((1=1)))))))", -5021);
        // Each RULE begins anew.
        Kit.dueLaw(new TwoKings(), Kit.times("x((((((1=1))))))", 8, ";"), 8);
        Kit.dueLaw(new TwoKings(), "x((((((1=1))))));x(((((((1=1)))))))", -5024);
        Kit.dueLaw(new TwoKings(), "x(!!!!!1=1);x(!!!!!1=1);x(!!!!!!1=1)", -5031);
    }

    private static void firstFromTheLeft() {
        Kit.says("FAULTS, the first from the left: 1 what can't stand there (the end, too); 2 a sixth digit, at it; "
                + "4 a 17th RULE, at its letter");
        String[] texts = {"f123456(((((((1=1", "x(((((((123456=1", "g;f123456", "f123456;g", "x(((((((g", "x(g(((((((",
            Kit.times("x(1=2)", 16, ";") + ";f123456", Kit.times("x(1=2)", 15, ";") + ";f123456(1=1);x(1=1)"};
        int[] faults = {-2006, -5007, -1000, -2006, -5007, -1002, -4112, -2111};
        for (int i = 0; i < texts.length; i++) {
            Kit.dueLaw(new TwoKings(), texts[i], faults[i]);
        }
    }

    private static void theOneBefore() {
        Kit.says("in place of the one before: how many RULES; a FAULT: -1000 times its number, less its place "
                + "(the one before stays)");
        TwoKings x = Kit.kings(99, 99);
        Kit.orders(x, "1o");
        Kit.treaty(x, "a<b");
        x.tolerance(3, 4);
        x.breaths(2);
        x.keep();
        Kit.dueLaw(x, "f2(k=0);f3(k=1);d1(1=1)", 3);
        String before = Kit.picture(x);
        // Each is without a FAULT for a long way, and would be another LAW.
        String[] texts = {"f9(1=1);h(1=1);x(1=1);", "f9(1=1);d123456(1=1)", Kit.times("x(1=1)", 16, ";") + ";x(1=1)",
            "f9(1=1);x(((((((1=1)))))))", "f9(1=1);x(1=1)g"};
        int[] faults = {-1022, -2014, -4112, -5015, -1014};
        for (int i = 0; i < texts.length; i++) {
            Kit.dueLaw(x, texts[i], faults[i]);
            Kit.due("the tape is empty then", x.count(5), 0);
            Kit.due("RULES", x.count(4), 3);
        }
        Kit.due("all is as it was", Kit.picture(x), before);
        Kit.due("STEPS by the one before", x.tried(1, 10) * 1000 + x.tried(1, 11), 97 * 1000 + 96);
        Kit.dueLaw(x, "u9(1=1)", 1);
        Kit.due("STEPS by the new one", x.tried(1, 10) * 1000 + x.tried(1, 11), 99 * 1000 + 99);
        Kit.due("RULES of the new one", x.count(4), 1);
    }
}
