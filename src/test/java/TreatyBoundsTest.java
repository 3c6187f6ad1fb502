/** The bounds of a TREATY, each FAULT at its place, MOMENTS and ACTS: promises 7, 15 and 16. */
public final class TreatyBoundsTest {
    private static final String ACTS = "abcdefghijklmnop";
    private static final int BIG = Integer.MAX_VALUE;
    private static final int SMALL = Integer.MIN_VALUE;

    public static void main(String[] args) {
        places();
        blanks();
        length();
        twentyFourLines();
        itself();
        everyPair();
        theOneBefore();
        moments();
        asSoonAsCanBe();
        contradictions();
        firstLine();
        notNamed();
        contradictsAndNotNamed();
        noSuchOnes();
        atOnce();
        ahead();
        everyThree();
        Kit.end();
    }

    /** Behind the text ahead, each byte: one that goes on (the end can't stand behind it), one that ends, or a FAULT 1. */
    private static void only(String ahead, String goesOn, String ends, String elsewhere) {
        int lines = ahead.split(";", -1).length;
        for (int b = 0; b <= 255; b++) {
            if (elsewhere.indexOf(b) < 0) {
                String text = ahead + (char) b;
                int want = goesOn.indexOf(b) >= 0 ? -1000 - text.length()
                        : ends.indexOf(b) >= 0 ? lines : -1000 - ahead.length();
                TwoKings x = new TwoKings();
                Kit.due("treaty " + ahead + " and byte " + b, Kit.treaty(x, text), want);
                Kit.due("LINES behind " + ahead + " and byte " + b, x.count(3), Math.max(0, want));
                Kit.due("the tape behind " + ahead + " and byte " + b, x.count(5), 0);
            }
        }
    }

    private static void places() {
        Kit.says("a letter a to p (ACT 0 to 15), < (60: it goes before) or = (61: at once with), a letter a to p.");
        only("", ACTS, "", "");
        only("a", "<=", "", "");
        only("p", "<=", "", "");
        only("a<", "", ACTS, "a");
        only("a=", "", ACTS, "a");
        only("p<", "", ACTS, "p");
        only("p=", "", ACTS, "p");
        Kit.says("A TREATY: a TEXT of at most 120 bytes, no blanks (none at first): LINES with a ; (59) between two");
        only("a<b", ";", "", "");
        only("a=b", ";", "", "");
        only("a<b;", ACTS, "", "");
        only("a<b;c", "<=", "", "");
        only("a<b;c=", "", ACTS, "c");
        only("a<b;c=d", ";", "", "");
    }

    private static void blanks() {
        Kit.says("FAULTS: 1 what can't stand there (the end, too)");
        String[] texts = {" a<b", "a <b", "a< b", "a<b ", "a<b ;c<d", "a<b; c<d", ";a<b", "a<b;", "a<b;;c<d", "a<b<c", "a>b",
            "a==b", "a<=b", "ab", "<a", "A<b", "a<B", "a<b,c<d", "`<b", "a<`", "q<a", "a<q", "0<1"};
        int[] places = {0, 1, 2, 3, 3, 4, 0, 4, 4, 3, 1,
            2, 2, 1, 0, 0, 2, 3, 0, 2, 0, 2, 0};
        for (int i = 0; i < texts.length; i++) {
            Kit.dueTreaty(new TwoKings(), texts[i], -1000 - places[i]);
        }
        String text = "a<b;c=d";
        for (int n = 1; n <= text.length(); n++) {
            TwoKings x = new TwoKings();
            Kit.dueTreaty(x, text.substring(0, n), n == 3 ? 1 : n == 7 ? 2 : -1000 - n);
        }
    }

    private static void length() {
        Kit.says("`int treaty(int n)`: A TREATY by the first n bytes of the tape (1 to 120; empty then)");
        // Twenty-four LINES are 95 bytes: of 120 bytes all have a FAULT, but are read.
        String most = Kit.times("a<b", 24, ";");
        Kit.due("the longest", most.length(), 95);
        TwoKings x = new TwoKings();
        Kit.dueTreaty(x, most, 24);
        String longer = most + ";" + Kit.times("c<d", 6, ";");
        Kit.due("its length", longer.length(), 119);
        Kit.dueTreaty(x, longer + ";", -4096);
        Kit.dueTreaty(x, "x" + longer, -1000);
        Kit.text(x, longer + ";e");
        Kit.due("121 bytes", x.treaty(121), -1);
        Kit.due("the tape stays", x.count(5), 140);
        Kit.due("and holds what it held", x.treaty(7), 2);
    }

    private static void twentyFourLines() {
        Kit.says("LINES with a ; (59) between two (24 at most)");
        for (int n = 1; n <= 24; n++) {
            TwoKings x = new TwoKings();
            String lines = Kit.times("c=d", n - 1, ";") + (n > 1 ? ";" : "") + "a<p";
            Kit.dueTreaty(x, lines, n);
            Kit.due("LINES", x.count(3), n);
            Kit.due("the last one counts", x.moments(15), 2);
            Kit.due("ACTS", x.count(9), n > 1 ? 1 | 1 << 15 | 12 : 1 | 1 << 15);
        }
        Kit.says("4 a 25th LINE, at its first letter (if that can stand there)");
        String most = Kit.times("c=d", 24, ";");
        for (int b = 0; b <= 255; b++) {
            TwoKings x = new TwoKings();
            Kit.dueTreaty(x, most + ";" + (char) b, ACTS.indexOf(b) >= 0 ? -4096 : -1096);
            Kit.due("no LINES", x.count(3), 0);
        }
        TwoKings x = new TwoKings();
        Kit.dueTreaty(x, most + ";", -1096);
        Kit.dueTreaty(x, most + ";a<b", -4096);
        Kit.dueTreaty(x, most + ";a<a", -4096);
        Kit.dueTreaty(x, most + ";a>b", -4096);
        Kit.dueTreaty(x, most + "a", -1095);
        Kit.due("no LINES", x.count(3), 0);
    }

    private static void itself() {
        Kit.says("6 an ACT and itself, at the second letter.");
        for (int a = 0; a < 16; a++) {
            char act = ACTS.charAt(a);
            TwoKings x = new TwoKings();
            Kit.dueTreaty(x, act + "<" + act, -6002);
            Kit.dueTreaty(x, act + "=" + act, -6002);
            Kit.dueTreaty(x, act + "<" + act + ";", -6002);
            Kit.dueTreaty(x, act + "=" + act + "x", -6002);
            Kit.dueTreaty(x, "a<b;" + act + "<" + act, -6006);
            Kit.dueTreaty(x, "a<b;b=c;" + act + "=" + act + ";q", -6010);
            Kit.due("no LINES", x.count(3), 0);
        }
        // An ACT and itself by way of others is no FAULT: it CONTRADICTS itself, or does not.
        Kit.dueTreaty(new TwoKings(), "a<b;b<a", 2);
        Kit.dueTreaty(new TwoKings(), "a=b;b=a", 2);
    }

    private static void everyPair() {
        Kit.says("a letter a to p (ACT 0 to 15)");
        for (int a = 0; a < 16; a++) {
            for (int b = 0; b < 16; b++) {
                if (a != b) {
                    TwoKings x = new TwoKings();
                    Kit.dueTreaty(x, ACTS.charAt(a) + "<" + ACTS.charAt(b), 1);
                    Kit.due("ACTS", x.count(9), 1 << a | 1 << b);
                    Kit.due("the first MOMENT", x.moments(a), 1);
                    Kit.due("the second MOMENT", x.moments(b), 2);
                    Kit.due("MOMENTS", x.moments(100), 2);
                    Kit.due("what goes before it", x.act(b, 1), 1 << a);
                    Kit.due("nothing goes before it", x.act(a, 1), 0);
                    Kit.dueTreaty(x, ACTS.charAt(a) + "=" + ACTS.charAt(b), 1);
                    Kit.due("one MOMENT", x.moments(100), 1);
                    Kit.due("at once", x.act(a, 0), 1 << a | 1 << b);
                    Kit.due("at once the other way", x.act(b, 0), 1 << a | 1 << b);
                }
            }
        }
    }

    private static void theOneBefore() {
        Kit.says("A TREATY by the first n bytes of the tape (1 to 120; empty then), in place of the one before");
        TwoKings x = Kit.kings(40, 50);
        Kit.law(x, "f1(1=1)");
        Kit.dueTreaty(x, "a<b;b<c;d=e", 3);
        String before = Kit.picture(x);
        String[] texts = {"e<d;f=g;", "e<d;f=f", "e<d;q", Kit.times("e<d", 24, ";") + ";e", "b<a;a<b;x"};
        int[] faults = {-1008, -6006, -1004, -4096, -1008};
        for (int i = 0; i < texts.length; i++) {
            Kit.dueTreaty(x, texts[i], faults[i]);
            Kit.due("the tape is empty then", x.count(5), 0);
        }
        Kit.due("all is as it was behind a FAULT", Kit.picture(x), before);
        Kit.dueTreaty(x, "c<b;f=g", 2);
        Kit.due("LINES", x.count(3), 2);
        Kit.due("ACTS of the new one alone", x.count(9), 2 | 4 | 32 | 64);
        Kit.due("not named any more", x.moments(0), -2);
        Kit.due("the other way round now", x.moments(1) * 10 + x.moments(2), 21);
        // One that CONTRADICTS itself is taken, too, and one in place of it is as if it had not been.
        Kit.dueTreaty(x, "a<b;b<a", 2);
        Kit.due("LINES of what CONTRADICTS itself", x.count(3), 2);
        Kit.due("ACTS of what CONTRADICTS itself", x.count(9), 3);
        Kit.dueTreaty(x, "a<b;b<a;c<d;a=p", 4);
        Kit.due("LINES behind the one that does", x.count(3), 4);
        Kit.due("ACTS of LINES behind the one that does", x.count(9), 15 | 1 << 15);
        Kit.dueTreaty(x, "a<b", 1);
        Kit.due("no contradiction", x.moments(101), -2);
        Kit.due("MOMENTS", x.moments(100), 2);
    }

    private static void moments() {
        Kit.says("ACTS that a TREATY names are done at MOMENTS 1 on");
        TwoKings two = new TwoKings();
        Kit.treaty(two, "n<o;p=n");
        Kit.due("the MOMENTS of n, o, p", two.moments(13) * 100 + two.moments(14) * 10 + two.moments(15), 121);
        Kit.says("what 100 how many (no ACT: 0)");
        Kit.due("no TREATY", new TwoKings().moments(100), 0);
        StringBuilder chain = new StringBuilder();
        for (int n = 2; n <= 16; n++) {
            chain.append(n > 2 ? ";" : "").append(ACTS.charAt(n - 2)).append('<').append(ACTS.charAt(n - 1));
            TwoKings x = new TwoKings();
            Kit.dueTreaty(x, chain.toString(), n - 1);
            Kit.due("MOMENTS of " + n, x.moments(100), n);
            for (int a = 0; a < 16; a++) {
                Kit.due("the MOMENT of " + a + " of " + n, x.moments(a), a < n ? a + 1 : -2);
                Kit.due("what goes before " + a, x.act(a, 1), a < n ? (1 << a) - 1 : -2);
            }
        }
        // As long as can be, told from its end.
        StringBuilder back = new StringBuilder();
        for (int a = 15; a > 0; a--) {
            back.append(a < 15 ? ";" : "").append(ACTS.charAt(a - 1)).append('<').append(ACTS.charAt(a));
        }
        TwoKings x = new TwoKings();
        Kit.dueTreaty(x, back.toString(), 15);
        for (int a = 0; a < 16; a++) {
            Kit.due("the MOMENT of " + a + " told from the end", x.moments(a), a + 1);
        }
        Kit.due("all go before the last", x.act(15, 1), 32767);
    }

    private static void asSoonAsCanBe() {
        Kit.says("each as soon as can be: behind all that go before it, those at once with each other at the same.");
        TwoKings x = new TwoKings();
        Kit.dueTreaty(x, "a<b;b<c;a<c;d<c;e=d;f<e;g=a", 7);
        int[] want = {1, 2, 3, 2, 2, 1, 1};
        for (int a = 0; a < 7; a++) {
            Kit.due("the MOMENT of " + a, x.moments(a), want[a]);
        }
        Kit.due("MOMENTS", x.moments(100), 3);
        // At once with one that is late: late, too, and what follows it.
        Kit.dueTreaty(x, "a<b;b<c;d=c;d<e;f=a;f<g", 6);
        int[] late = {1, 2, 3, 3, 4, 1, 2};
        for (int a = 0; a < 7; a++) {
            Kit.due("the MOMENT of " + a + " by one that is late", x.moments(a), late[a]);
        }
    }

    private static void contradictions() {
        Kit.says("It CONTRADICTS itself if they can't.");
        String[] texts = {"a<b;b<a", "a=b;a<b", "a=b;b<a", "a<b;a=b", "a<b;b=a", "a<b;b<c;c<a", "a=b;b=c;a<c", "a<b;c<d;b=c;d=a",
            "a<b;b<c;c=a", "o<p;p<o", "a=b;c=d;a<c;d<b"};
        int[] lines = {1, 1, 1, 1, 1, 2, 2, 3, 2, 1, 3};
        for (int i = 0; i < texts.length; i++) {
            TwoKings x = new TwoKings();
            Kit.dueTreaty(x, texts[i], (texts[i].length() + 1) / 4);
            Kit.due(texts[i] + " 101", x.moments(101), lines[i]);
            Kit.due(texts[i] + " 100", x.moments(100), -3);
            for (int a = 0; a < 16; a++) {
                Kit.due(texts[i] + " MOMENT of " + a, x.moments(a), -3);
                Kit.due(texts[i] + " at once with " + a, x.act(a, 0), -3);
                Kit.due(texts[i] + " ahead of " + a, x.act(a, 1), -3);
            }
        }
        Kit.says("-3 (but of 101): it CONTRADICTS itself");
        TwoKings two = new TwoKings();
        Kit.treaty(two, "a<b;b<a");
        Kit.due("101", two.moments(101), 1);
        Kit.due("100", two.moments(100), -3);
        Kit.due("the first ACT", two.moments(0), -3);
        Kit.due("the last ACT", two.moments(15), -3);
        Kit.says("It CONTRADICTS itself if they can't.");
        String[] fine = {"a<b;a<b", "a=b;b=a", "a<b;b<c;a<c", "a=b;c=d;a<c;b<d", "a<b;c<b;a=c", "a=b;b=c;c=a"};
        for (String text : fine) {
            TwoKings x = new TwoKings();
            Kit.treaty(x, text);
            Kit.due(text + " 101", x.moments(101), -2);
            Kit.due(text + " 100", x.moments(100) > 0, true);
        }
    }

    private static void firstLine() {
        Kit.says("the first LINE with which it CONTRADICTS itself (by LINES ahead, with it)");
        // The LINE that closes it, wherever the others stand; later ones do not matter, nor do later contradictions.
        String[] texts = {"a<b;b<c;c<a;d<e;e<d", "d<e;a<b;b<c;e<d;c<a", "a<b;c=d;b<a;d<c", "a=b;c=d;a=c;d<b;e<f",
            "e<f;a=b;b<a"};
        int[] closing = {2, 3, 2, 3, 2};
        for (int i = 0; i < texts.length; i++) {
            TwoKings one = new TwoKings();
            Kit.treaty(one, texts[i]);
            Kit.due(texts[i], one.moments(101), closing[i]);
        }
        Kit.says("101 the first LINE with which it CONTRADICTS itself (0 on; -2: it does not)");
        for (int line = 1; line <= 23; line++) {
            TwoKings x = new TwoKings();
            StringBuilder text = new StringBuilder("a<b");
            for (int i = 1; i <= 23; i++) {
                text.append(i == line ? ";b<a" : i > line ? ";d<c" : ";c<d");
            }
            Kit.dueTreaty(x, text.toString(), 24);
            Kit.due("the first LINE", x.moments(101), line);
        }
        TwoKings x = new TwoKings();
        Kit.due("no TREATY", x.moments(101), -2);
        Kit.treaty(x, "a<b");
        Kit.due("one that does not", x.moments(101), -2);
    }

    private static void notNamed() {
        Kit.says("-2 (of an ACT): the TREATY does not name it");
        TwoKings x = new TwoKings();
        Kit.dueTreaty(x, "b<e;o=c", 2);
        for (int a = 0; a < 16; a++) {
            boolean named = "beoc".indexOf(ACTS.charAt(a)) >= 0;
            Kit.due("the MOMENT of " + a + " is known", x.moments(a) != -2, named);
            Kit.due("at once with " + a + " is known", x.act(a, 0) != -2, named);
            Kit.due("ahead of " + a + " is known", x.act(a, 1) != -2, named);
        }
    }

    private static void contradictsAndNotNamed() {
        Kit.says("-2: it does not; -3: it CONTRADICTS itself; NONE: no such ones.");
        TwoKings x = new TwoKings();
        Kit.dueTreaty(x, "a<b;b<a", 2);
        Kit.due("the MOMENT of one that is not named", x.moments(15), -3);
        Kit.due("at once with one that is not named", x.act(15, 0), -3);
        Kit.due("ahead of one that is not named", x.act(15, 1), -3);
        Kit.due("no such ACT", x.moments(16), -1);
        Kit.due("no such ACT of act", x.act(16, 0), -1);
        Kit.due("no such what", x.act(0, 2), -1);
    }

    private static void noSuchOnes() {
        String[] treaties = {"", "a<b;c=d", "a<b;b<a"};
        for (String text : treaties) {
            TwoKings x = new TwoKings();
            if (!text.isEmpty()) {
                Kit.treaty(x, text);
            }
            Kit.says("-3 (but of 101): it CONTRADICTS itself; NONE: no such ones.");
            for (int what : new int[] {-1, -2, -100, 16, 17, 31, 32, 64, 98, 99, 102, 103, 1000, BIG, SMALL}) {
                Kit.due("moments " + what + " of " + text, x.moments(what), -1);
            }
            Kit.says("else the MOMENT of ACT what (0 to 15)");
            for (int what : new int[] {0, 15, 100, 101}) {
                Kit.due("moments " + what + " of " + text + " is known", x.moments(what) != -1, true);
            }
        }
        Kit.says("`int act(int a, int what)`: Of an ACT (0 to 15) that the TREATY names");
        for (String text : treaties) {
            TwoKings x = new TwoKings();
            if (!text.isEmpty()) {
                Kit.treaty(x, text);
            }
            for (int a : new int[] {-1, 16, 17, 32, 100, BIG, SMALL}) {
                Kit.due("act " + a + " 0 of " + text, x.act(a, 0), -1);
                Kit.due("act " + a + " 1 of " + text, x.act(a, 1), -1);
            }
            for (int what : new int[] {-1, 2, 3, 100, BIG, SMALL}) {
                Kit.due("act 0 " + what + " of " + text, x.act(0, what), -1);
                Kit.due("act 15 " + what + " of " + text, x.act(15, what), -1);
            }
        }
    }

    private static void atOnce() {
        Kit.says("what 0 those at once with it, 1 what must go before it (bits)");
        TwoKings four = new TwoKings();
        Kit.treaty(four, "a<b;b=c;c<d");
        int[][] bits = {{1, 0}, {6, 1}, {6, 1}, {8, 7}};
        for (int a = 0; a < 4; a++) {
            Kit.due("act " + a + " 0", four.act(a, 0), bits[a][0]);
            Kit.due("act " + a + " 1", four.act(a, 1), bits[a][1]);
        }
        Kit.says("ACTS (bits) that are at once with one (itself, too)");
        TwoKings x = new TwoKings();
        Kit.dueTreaty(x, "a<b;c=d;e=d;f<c;p=o", 5);
        int[] want = {1, 2, 4 | 8 | 16, 4 | 8 | 16, 4 | 8 | 16, 32};
        for (int a = 0; a < want.length; a++) {
            Kit.due("at once with " + a, x.act(a, 0), want[a]);
        }
        Kit.due("at once with the last", x.act(15, 0), 1 << 15 | 1 << 14);
        StringBuilder all = new StringBuilder("a=b");
        for (int a = 2; a < 16; a++) {
            all.append(";").append(ACTS.charAt(a - 1)).append('=').append(ACTS.charAt(a));
        }
        Kit.dueTreaty(x, all.toString(), 15);
        for (int a = 0; a < 16; a++) {
            Kit.due("all at once with " + a, x.act(a, 0), 65535);
            Kit.due("none ahead of " + a, x.act(a, 1), 0);
            Kit.due("one MOMENT for " + a, x.moments(a), 1);
        }
        Kit.due("MOMENTS", x.moments(100), 1);
    }

    private static void ahead() {
        Kit.says("what must go before one (bits, by steps).");
        TwoKings x = new TwoKings();
        // By one step, by two, by those at once with it, and by those at once with one that is ahead.
        Kit.dueTreaty(x, "a<b;b<c;d=c;e<d;f=a;c<g;g=h", 7);
        int[] want = {0, 1 | 32, 1 | 2 | 16 | 32, 1 | 2 | 16 | 32, 0, 0, 63, 63};
        for (int a = 0; a < want.length; a++) {
            Kit.due("ahead of " + a, x.act(a, 1), want[a]);
        }
        // The LINES in another order say the same.
        Kit.dueTreaty(x, "g=h;c<g;f=a;e<d;d=c;b<c;a<b", 7);
        for (int a = 0; a < want.length; a++) {
            Kit.due("ahead of " + a + " by another order", x.act(a, 1), want[a]);
        }
    }

    /** Three ACTS in every order: what follows by way of one of them, whichever it is and whichever LINE comes first. */
    private static void everyThree() {
        Kit.says("what must go before one (bits, by steps).");
        for (int a = 0; a < 16; a++) {
            for (int b = 0; b < 16; b++) {
                for (int c = 0; c < 16; c++) {
                    if (a != b && b != c && a != c) {
                        dueThree("a<b", "b<c", a, b, c, 0, 1 << a, 1 << a | 1 << b);
                        dueThree("a<c", "b<c", a, b, c, 0, 0, 1 << a | 1 << b);
                        dueThree("a<b", "a<c", a, b, c, 0, 1 << a, 1 << a);
                        dueThree("a=b", "b<c", a, b, c, 0, 0, 1 << a | 1 << b);
                        dueThree("a<b", "b=c", a, b, c, 0, 1 << a, 1 << a);
                    }
                }
            }
        }
    }

    private static void dueThree(String one, String other, int a, int b, int c, int ofA, int ofB, int ofC) {
        String lines = one + ";" + other;
        String turned = other + ";" + one;
        for (String text : new String[] {lines, turned}) {
            StringBuilder named = new StringBuilder();
            for (char sign : text.toCharArray()) {
                named.append(sign == 'a' ? ACTS.charAt(a) : sign == 'b' ? ACTS.charAt(b) : sign == 'c' ? ACTS.charAt(c) : sign);
            }
            TwoKings x = new TwoKings();
            Kit.dueTreaty(x, named.toString(), 2);
            Kit.due(named + " ahead of the first", x.act(a, 1), ofA);
            Kit.due(named + " ahead of the second", x.act(b, 1), ofB);
            Kit.due(named + " ahead of the third", x.act(c, 1), ofC);
        }
    }
}
