/** The bounds of ORDERS, each FAULT at its place, and what stays then: promise 6. */
public final class OrdersBoundsTest {
    private static final String DIGITS = "0123456789";

    public static void main(String[] args) {
        places();
        length();
        twentyLines();
        whom();
        forward();
        bows();
        hats();
        lessOffence();
        numbers();
        fourthDigit();
        bowAboveNinety();
        firstFromTheLeft();
        nothingIsDone();
        inTheirOrder();
        Kit.end();
    }

    /** Behind the text ahead, each byte: one that goes on (the end can't stand behind it), one that ends, or a FAULT 1. */
    private static void only(String ahead, String goesOn, String ends, String elsewhere) {
        int lines = ahead.split(";", -1).length;
        for (int b = 0; b <= 255; b++) {
            if (elsewhere.indexOf(b) < 0) {
                String text = ahead + (char) b;
                int want = goesOn.indexOf(b) >= 0 ? -1000 - text.length()
                        : ends.indexOf(b) >= 0 ? lines : -1000 - ahead.length();
                TwoKings x = Kit.kings(999, 999);
                Kit.due("orders " + ahead + " and byte " + b, Kit.orders(x, text), want);
                Kit.due("the tape behind " + ahead + " and byte " + b, x.count(5), 0);
            }
        }
    }

    private static void places() {
        Kit.says("1 what can't stand there (the end, too)");
        only("", "01*", "", "");
        for (String whom : new String[] {"0", "1", "*"}) {
            only(whom, "fba", "ho", "");
            only(whom + "f", "", DIGITS, "");
            only(whom + "b", "", DIGITS, "");
            only(whom + "a", "", DIGITS, "");
            only(whom + "h", ";", "", "");
            only(whom + "o", ";", "", "");
        }
        only("0f1", ";", DIGITS, "");
        only("0f12", ";", DIGITS, "");
        only("0f123", ";", "", DIGITS);
        only("1a9", ";", DIGITS, "");
        only("1a99", ";", DIGITS, "");
        only("1a999", ";", "", DIGITS);
        only("*b0", ";", DIGITS, "");
        only("*b00", ";", DIGITS, "");
        only("*b000", ";", "", DIGITS);
        only("*b8", ";", DIGITS, "");
        only("*b9", ";", "0", "123456789");
        only("*b08", ";", DIGITS, "");
        only("*b09", ";", "0", "123456789");
        only("0h;", "01*", "", "");
        only("0h;1", "fba", "ho", "");
        only("0h;1f", "", DIGITS, "");
        only("0h;1f1", ";", DIGITS, "");
        only("0f1;*b20;1o", ";", "", "");
        Kit.says("ORDERS: a TEXT of at most 120 bytes, no blanks: LINES with a ; (59) between two");
        String[] texts = {" 0h", "0 h", "0f 1", "0f1 ", "0f1 2", "0h ;1h", "0h; 1h", ";0h", "0h;", "0h;;1h", "0h1h", "0h,1h"};
        int[] places = {0, 1, 2, 3, 3, 2, 3, 0, 3, 3, 2, 2};
        for (int i = 0; i < texts.length; i++) {
            Kit.dueOrders(new TwoKings(), texts[i], -1000 - places[i]);
        }
    }

    private static void length() {
        Kit.says("ORDERS: a TEXT of at most 120 bytes");
        // Twenty LINES of five bytes are 119 bytes: of 120 bytes all have a FAULT, but are read.
        String most = Kit.times("*f001", 20, ";");
        Kit.due("the longest", most.length(), 119);
        TwoKings x = Kit.kings(999, 500);
        Kit.dueOrders(x, most, 20);
        Kit.due("all of them are done by 0", x.kingIs(0, 0), 979);
        Kit.due("all of them are done by 1", x.kingIs(1, 0), 480);
        Kit.dueOrders(x, most + ";", -1120);
        Kit.due("the tape behind 120", x.count(5), 0);
        Kit.dueOrders(x, most + "0", -2119);
        Kit.text(x, most + ";1");
        Kit.due("121 bytes", x.orders(121), -1);
        Kit.due("the tape stays", x.count(5), 140);
        Kit.due("and holds what it held", x.orders(119), 20);
        Kit.due("done by 0", x.kingIs(0, 0), 959);
    }

    private static void twentyLines() {
        Kit.says("LINES with a ; (59) between two (20 at most)");
        for (int n = 1; n <= 20; n++) {
            TwoKings x = Kit.kings(999, 999);
            Kit.dueOrders(x, Kit.times("1f3", n, ";"), n);
            Kit.due("done " + n + " times", x.kingIs(1, 0), 999 - 3 * n);
        }
        Kit.says("4 a 21st LINE, at its first byte (if that can stand there)");
        String twenty = Kit.times("0f1", 20, ";");
        for (int b = 0; b <= 255; b++) {
            TwoKings x = Kit.kings(99, 99);
            Kit.dueOrders(x, twenty + ";" + (char) b, "01*".indexOf(b) >= 0 ? -4080 : -1080);
            Kit.due("nothing is done", x.kingIs(0, 0), 99);
        }
        TwoKings x = Kit.kings(99, 99);
        Kit.dueOrders(x, twenty + ";", -1080);
        Kit.dueOrders(x, twenty + ";0f1", -4080);
        Kit.dueOrders(x, twenty + ";*h;1h", -4080);
        Kit.dueOrders(x, twenty + ";1b91", -4080);
        Kit.due("nothing is done", x.kingIs(0, 0), 99);
        Kit.dueOrders(x, twenty, 20);
        Kit.due("all is done", x.kingIs(0, 0), 79);
    }

    private static void whom() {
        Kit.says("0, 1, or * (42, both KINGS)");
        String[] whom = {"0", "1", "*"};
        for (int i = 0; i < 3; i++) {
            TwoKings x = Kit.kings(50, 60);
            Kit.dueOrders(x, whom[i] + "f7;" + whom[i] + "b8;" + whom[i] + "o", 3);
            for (int k = 0; k <= 1; k++) {
                boolean his = i == 2 || i == k;
                Kit.due("STEPS of " + k + " by " + whom[i], x.kingIs(k, 0), 50 + 10 * k - (his ? 7 : 0));
                Kit.due("BOW of " + k + " by " + whom[i], x.kingIs(k, 1), his ? 8 : 0);
                Kit.due("HAT of " + k + " by " + whom[i], x.kingIs(k, 3), his ? 0 : 1);
            }
        }
    }

    private static void forward() {
        Kit.says("f and a number (so many STEPS forward; 0 LEFT at least)");
        int[][] steps = {{10, 9, 1}, {10, 10, 0}, {10, 11, 0}, {10, 0, 10}, {0, 0, 0}, {0, 1, 0}, {999, 999, 0},
            {999, 998, 1}, {1, 999, 0}, {500, 499, 1}};
        for (int[] one : steps) {
            for (int k = 0; k <= 1; k++) {
                TwoKings x = new TwoKings();
                // ORDERS are not a BREATH: one who LIMPS goes all of it.
                x.king(k, one[0], one[1] % 2 == 0);
                Kit.dueOrders(x, k + "f" + one[1], 1);
                Kit.due("of " + one[0] + " by " + one[1], x.kingIs(k, 0), one[2]);
            }
        }
        TwoKings x = Kit.kings(3, 9);
        Kit.dueOrders(x, "*f5", 1);
        Kit.due("one is there", x.kingIs(0, 0), 0);
        Kit.due("the other one is not", x.kingIs(1, 0), 4);
        Kit.dueOrders(x, "1f4", 1);
        Kit.due("they have MET", x.count(1), 1);
        Kit.due("no BREATH, no DRAW", x.count(0) + x.count(6), 1);
    }

    private static void bows() {
        Kit.says("b and a number (a BOW of so many degrees)");
        TwoKings x = Kit.kings(5, 5);
        int[] bows = {90, 0, 1, 89, 90, 45, 9, 10};
        for (int bow : bows) {
            Kit.dueOrders(x, "0b" + bow, 1);
            Kit.due("the BOW is just that", x.kingIs(0, 1), bow);
            Kit.due("the other one's", x.kingIs(1, 1), 0);
        }
    }

    private static void hats() {
        Kit.says("or h (the HAT on), or o (the HAT off)");
        TwoKings x = new TwoKings();
        String[] orders = {"0h", "0o", "0o", "0h", "1o", "*h", "*o", "1h"};
        int[][] hats = {{1, 1}, {0, 1}, {0, 1}, {1, 1}, {1, 0}, {1, 1}, {0, 0}, {0, 1}};
        for (int i = 0; i < orders.length; i++) {
            Kit.dueOrders(x, orders[i], 1);
            Kit.due("HAT of 0 behind " + orders[i], x.kingIs(0, 3), hats[i][0]);
            Kit.due("HAT of 1 behind " + orders[i], x.kingIs(1, 3), hats[i][1]);
        }
    }

    private static void lessOffence() {
        Kit.says("or a and a number (so much less OFFENCE; 0 at least)");
        int[][] much = {{10, 9, 1}, {10, 10, 0}, {10, 11, 0}, {10, 0, 10}, {0, 0, 0}, {0, 1, 0}, {999, 999, 0},
            {999, 998, 1}, {1, 999, 0}};
        for (int[] one : much) {
            for (int k = 0; k <= 1; k++) {
                TwoKings x = new TwoKings();
                x.king(k, one[0], false);
                x.breaths(1);
                Kit.due("OFFENCE", x.kingIs(k, 2), one[0]);
                Kit.dueOrders(x, k + "a" + one[1], 1);
                Kit.due("OFFENCE of " + one[0] + " less " + one[1], x.kingIs(k, 2), one[2]);
            }
        }
        TwoKings x = Kit.kings(999, 0);
        x.breaths(20);
        Kit.due("the greatest", x.kingIs(0, 2), 9999);
        Kit.dueOrders(x, Kit.times("*a999", 10, ";"), 10);
        Kit.due("nearly all of it", x.kingIs(0, 2), 9);
        Kit.due("the other one's stays 0", x.kingIs(1, 2), 0);
    }

    private static void numbers() {
        Kit.says("numbers of one to three digits.");
        String[] numbers = {"0", "5", "9", "00", "05", "10", "99", "000", "005", "050", "099", "100", "999"};
        for (String number : numbers) {
            TwoKings x = Kit.kings(999, 999);
            Kit.dueOrders(x, "0f" + number + ";0h", 2);
            Kit.due("forward by " + number, x.kingIs(0, 0), 999 - Integer.parseInt(number));
        }
    }

    private static void fourthDigit() {
        Kit.says("2 a fourth digit, at it");
        for (int b = '0'; b <= '9'; b++) {
            TwoKings x = Kit.kings(99, 99);
            for (String ahead : new String[] {"0f000", "1a123", "*f999", "*b000", "0b090", "1b091", "0b999", "*a012"}) {
                Kit.dueOrders(x, ahead + (char) b, -2005);
                Kit.dueOrders(x, ahead + (char) b + "1", -2005);
                Kit.dueOrders(x, ahead + (char) b + "x", -2005);
                Kit.dueOrders(x, "0h;" + ahead + (char) b + ";0h", -2008);
            }
            Kit.due("nothing is done", x.kingIs(0, 0) + x.kingIs(1, 0), 198);
        }
    }

    private static void bowAboveNinety() {
        Kit.says("3 a BOW above 90, at the number's first digit (asked when it ends)");
        TwoKings x = Kit.kings(9, 9);
        int[] above = {91, 92, 99, 100, 101, 180, 900, 909, 910, 999};
        for (int bow : above) {
            Kit.dueOrders(x, "0b" + bow, -3002);
            Kit.dueOrders(x, "*b" + bow + ";0h", -3002);
            Kit.dueOrders(x, "1b" + bow + "x", -3002);
            Kit.dueOrders(x, "0o;1b" + bow, -3005);
        }
        Kit.dueOrders(x, "0b091", -3002);
        Kit.dueOrders(x, "0b099;1h", -3002);
        Kit.due("no BOW", x.kingIs(0, 1) + x.kingIs(1, 1), 0);
        Kit.due("no HAT off", x.kingIs(0, 3), 1);
        // Only a BOW is asked for it.
        Kit.dueOrders(x, "0f91;1a999", 2);
        // The digit at which it comes above 90 does not matter, nor one that never ends.
        Kit.dueOrders(x, "0b9100", -2005);
    }

    private static void firstFromTheLeft() {
        Kit.says("FAULTS, the first from the left");
        String[] texts = {"0b91;0f1234", "0f1234;0b91", "0x;0b91", "0b91;0x", "0h;2;0b91", "0f1234x", "0b91x", "0f1;;0b91"};
        int[] faults = {-3002, -2005, -1001, -3002, -1003, -2005, -3002, -1004};
        for (int i = 0; i < texts.length; i++) {
            Kit.dueOrders(new TwoKings(), texts[i], faults[i]);
        }
    }

    private static void nothingIsDone() {
        Kit.says("Nothing is done by ORDERS with a FAULT.");
        TwoKings x = Kit.kings(70, 80);
        Kit.orders(x, "0b5;1o");
        x.breaths(3);
        String before = Kit.picture(x);
        String[] faults = {"*f9;*b9;*h;*o;*a9;", "*f9;*b9;*o;*a9;0b91", "*f9;*b9;*o;*a9;0f1234", "*f9;*b9;0h;*a9;2h",
            Kit.times("*f1", 20, ";") + ";*"};
        int[] wants = {-1018, -3017, -2020, -1015, -4080};
        for (int i = 0; i < faults.length; i++) {
            Kit.dueOrders(x, faults[i], wants[i]);
            Kit.due("tape", x.count(5), 0);
        }
        Kit.due("all is as it was", Kit.picture(x), before);
    }

    private static void inTheirOrder() {
        Kit.says("`int orders(int n)`: ORDERS by the first n bytes of the tape (1 to 120; empty then): how many LINES");
        TwoKings x = Kit.kings(70, 80);
        Kit.dueOrders(x, "0b90;*b20;1b7;0o;*h;1o", 6);
        Kit.due("the last BOW of 0", x.kingIs(0, 1), 20);
        Kit.due("the last BOW of 1", x.kingIs(1, 1), 7);
        Kit.due("the HAT of 0", x.kingIs(0, 3), 1);
        Kit.due("the HAT of 1", x.kingIs(1, 3), 0);
        // ORDERS of a call before leave nothing behind for the next one.
        Kit.dueOrders(x, "*f1", 1);
        Kit.due("STEPS of 0", x.kingIs(0, 0), 69);
        Kit.due("the HAT of 1 still", x.kingIs(1, 3), 0);
        Kit.due("THE BREATH", x.count(0), 0);
    }
}
