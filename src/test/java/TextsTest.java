/** Promises 5, 6 and 7: texts with each FAULT at its place, and what stays then. */
public final class TextsTest {
    public static void main(String[] args) {
        orders();
        lawFaults();
        lawDepth();
        lawLimits();
        treaties();
        Kit.end();
    }

    private static void orders() {
        TwoKings x = new TwoKings();
        x.king(0, 100, true);
        x.king(1, 50, false);
        Kit.dueOrders(x, "0f7", 1);
        Kit.due("all steps of one who limps", x.kingIs(0, 0), 93);
        Kit.dueOrders(x, "*f60;1b90;0b007;0o", 4);
        Kit.due("steps of 0", x.kingIs(0, 0), 33);
        Kit.due("no steps left of 1", x.kingIs(1, 0), 0);
        Kit.due("bow of 1", x.kingIs(1, 1), 90);
        Kit.due("bow of 0", x.kingIs(0, 1), 7);
        Kit.due("hat of 0", x.kingIs(0, 3), 0);
        Kit.due("hat of 1", x.kingIs(1, 3), 1);
        x.breaths(1);
        Kit.due("offence of 0", x.kingIs(0, 2), 34);
        Kit.due("offence of 1", x.kingIs(1, 2), 83);
        Kit.dueOrders(x, "*a30;0h;1o", 3);
        Kit.due("less offence of 0", x.kingIs(0, 2), 4);
        Kit.due("less offence of 1", x.kingIs(1, 2), 53);
        Kit.due("hat on of 0", x.kingIs(0, 3), 1);
        Kit.due("hat off of 1", x.kingIs(1, 3), 0);
        Kit.dueOrders(x, "*a999", 1);
        Kit.due("no offence", x.kingIs(1, 2), 0);
        String before = Kit.picture(x);
        String[] texts = {"2h", "0", "0x", "0F1", "0f", "0fx", "0f1x", "0f1234", "0b91", "0b999", "0b0911", "0b9999",
            "0b91x", "0h;", "0hh", "0h;;0h", ";0h", "0h 0h", "0f1;0b91;x", "0f-1", "0b", "0a", "*", "01", "0h;2h",
            "0o;1b100;0f12345"};
        int[] faults = {-1000, -1001, -1001, -1001, -1002, -1002, -1003, -2005, -3002, -3002, -2005, -2005,
            -3002, -1003, -1002, -1003, -1000, -1002, -3006, -1002, -1002, -1002, -1001, -1001, -1003,
            -3005};
        for (int i = 0; i < texts.length; i++) {
            Kit.dueOrders(x, texts[i], faults[i]);
            Kit.due("tape behind " + texts[i], x.count(5), 0);
        }
        Kit.due("nothing done by faults", Kit.picture(x).equals(before), true);
        String twenty = Kit.times("1h", 20, ";");
        Kit.dueOrders(x, twenty, 20);
        Kit.dueOrders(x, twenty + ";0f1", -4060);
        Kit.dueOrders(x, twenty + ";", -1060);
        Kit.dueOrders(x, twenty + ";f", -1060);
        Kit.dueOrders(x, Kit.times("0b090", 20, ";") + "1", -2119);
        Kit.dueOrders(x, Kit.times("0b090", 20, ";"), 20);
    }

    private static void lawFaults() {
        TwoKings x = new TwoKings();
        x.king(0, 100, false);
        x.king(1, 100, false);
        Kit.dueLaw(x, "f9(k=0)", 1);
        String[] texts = {"", "g1(1=1)", "f", "f(", "f1", "f1(", "f1()", "f1(1", "f1(1)", "f1(1=", "f1(1=1", "f1(1=1)x",
            "f1(1=1);", "f1(1=1);;", "f123456(1=1)", "f1(123456=1)", "f1(1==1)", "f1(1=1=1)", "f1((1)=1)",
            "f1(1=(1))", "f1(!1)", "f1(!1=1&)", "f1(1=1|)", "f1(1=1&|1=1)", "f1+(1=1)", "f1-+1(1=1)", "f-1(1=1)",
            "f[1(1=1)", "f[1](1=1)]", "f1](1=1)", "f[](1=1)", "h1(1=1)", "x(1=1]", "x([1=1])", "x([1)=1)", "x(1k=1)",
            "x(k1=1)", "x(kk=1)", "x(1=1) ", "x 1=1)", "x(e=1)", "x(K=1)", "f12 (1=1)", "x(1!=1)", "f!1(1=1)",
            "x(1=1&1)", "x(!=1)", "x((1=1)=1)", "x((1=1)+1)", "x(1=1)&(1=1)", "x((1=1)", "x(1<)", "x(1=!1)",
            "f1*(1=1)", "f[1]1(1=1)", "f1[1](1=1)", "fkpqbcovatr(1=1)", "u(1=1)"};
        int[] faults = {-1, -1000, -1001, -1001, -1002, -1003, -1003, -1004, -1004, -1005, -1006, -1007,
            -1008, -1008, -2006, -2008, -1005, -1006, -1005,
            -1005, -1005, -1008, -1007, -1007, -1003, -1003, -1001,
            -1003, -1009, -1002, -1002, -1001, -1005, -1004, -1004, -1003,
            -1003, -1003, -1006, -1001, -1002, -1002, -1003, -1003, -1001,
            -1007, -1003, -1007, -1007, -1006, -1007, -1004, -1004,
            -1003, -1004, -1002, -1002, -1001};
        for (int i = 0; i < texts.length; i++) {
            Kit.dueLaw(x, texts[i], faults[i]);
            Kit.due("tape behind " + texts[i], x.count(5), 0);
        }
        Kit.due("rules of the one before", x.count(4), 1);
        Kit.due("the law before stays", x.tried(1, 10), 91);
        Kit.dueLaw(x, "f2(k=1);x(1=2)", 2);
        Kit.due("rules of the new one", x.count(4), 2);
        Kit.due("the law before is gone", x.tried(1, 10), 100);
        Kit.due("the law is new", x.tried(1, 11), 98);
        Kit.dueLaw(x, "f99999(00000=0)", 1);
        Kit.due("bound of f", x.tried(1, 11), 91);
    }

    private static void lawDepth() {
        TwoKings x = new TwoKings();
        Kit.dueLaw(x, "x((((((1=1))))))", 1);
        Kit.dueLaw(x, "x(((((((1=1)))))))", -5007);
        Kit.dueLaw(x, "x(!!!!!1=1)", 1);
        Kit.dueLaw(x, "x(!!!!!!1=1)", -5007);
        Kit.dueLaw(x, "x([[[[[1]]]]]=1)", 1);
        Kit.dueLaw(x, "x([[[[[[1]]]]]]=1)", -5007);
        Kit.dueLaw(x, "f[[[[[[1]]]]]](1=1)", 1);
        Kit.dueLaw(x, "f[[[[[[[1]]]]]]](1=1)", -5007);
        Kit.dueLaw(x, "f[[[[[[1]]]]]]((((((1=1))))))", 1);
        Kit.dueLaw(x, "f[[[[[[1]]]]]](((((((1=1)))))))", -5020);
        // A ! is open till its TEST ends: behind the & and the | it is not.
        Kit.dueLaw(x, "x(!!!!!1=1&!!!!!1=1|!!!!!1=1)", 1);
        Kit.dueLaw(x, "x(!(!(!1=1&!1=1)))", 1);
        Kit.dueLaw(x, "x(!(!(!1=1&!!1=1)))", -5012);
        Kit.dueLaw(x, "x(!(!([1]=1&[1]=[1])))", 1);
        Kit.dueLaw(x, "x(!(!([1]=1&[1]=[[1]])))", -5017);
        Kit.dueLaw(x, "x(!(!(![1]=1)))", -5007);
        Kit.dueLaw(x, "x(((((1=1)))))&", -1014);
        Kit.dueLaw(x, "x(!!!!!(1=1))", -5007);
        Kit.dueLaw(x, "x(!!!!!1=[1])", -5009);
        // What can't stand there is that, however deep.
        Kit.dueLaw(x, "x((((((1=(1))))))", -1009);
        Kit.dueLaw(x, "x((((((1!", -1008);
    }

    private static void lawLimits() {
        TwoKings x = new TwoKings();
        String sixteen = Kit.times("x(1=2)", 16, ";");
        Kit.dueLaw(x, sixteen, 16);
        Kit.due("rules", x.count(4), 16);
        Kit.dueLaw(x, sixteen + ";", -1112);
        Kit.dueLaw(x, sixteen + ";h", -4112);
        Kit.dueLaw(x, sixteen + ";k", -1112);
        Kit.dueLaw(x, sixteen + ";f1(1=1)", -4112);
        Kit.due("rules stay", x.count(4), 16);
        String longest = "f1(" + Kit.times("1=1", 59, "&") + ")";
        Kit.due("length", longest.length(), 239);
        x.king(0, 9, false);
        Kit.dueLaw(x, longest, 1);
        Kit.due("all of it", x.tried(1, 10), 8);
        String full = "f12(" + Kit.times("1=1", 59, "&") + ")";
        Kit.dueLaw(x, full, 1);
        Kit.due("all of 240", x.tried(1, 10), 0);
        Kit.text(x, full + "&");
        Kit.due("law of 241", x.law(241), -1);
        Kit.due("tape of 241", x.count(5), 260);
        Kit.due("the law stays", x.tried(1, 10), 0);
    }

    private static void treaties() {
        TwoKings x = new TwoKings();
        Kit.dueTreaty(x, "a<b;p=o", 2);
        String before = Kit.picture(x);
        String[] texts = {"A<b", "q<b", "a", "a>b", "a<", "a<q", "a<a", "p=p", "a<b;", "a<b;;", "a<bc", "a<b;c=c",
            "a<b<c", "a<b,c<d", "1<2"};
        int[] faults = {-1000, -1000, -1001, -1001, -1002, -1002, -6002, -6002, -1004, -1004, -1003, -6006,
            -1003, -1003, -1000};
        for (int i = 0; i < texts.length; i++) {
            Kit.dueTreaty(x, texts[i], faults[i]);
        }
        Kit.due("the treaty before stays", Kit.picture(x).equals(before), true);
        String most = Kit.times("c=d", 24, ";");
        Kit.dueTreaty(x, most + ";a", -4096);
        Kit.dueTreaty(x, most + ";a<a", -4096);
        Kit.dueTreaty(x, most + ";q", -1096);
        Kit.dueTreaty(x, most + ";", -1096);
        Kit.due("lines stay", x.count(3), 2);
        Kit.dueTreaty(x, most, 24);
        Kit.due("lines", x.count(3), 24);
        Kit.due("acts", x.count(9), 12);
    }
}
