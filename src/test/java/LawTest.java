/** Promise 6: THE LAW, its FAULTS, and how it is reckoned. */
final class LawTest {
    private LawTest() {
    }

    public static void main(String[] args) {
        rules();
        faults();
        depth();
        stays();
        manyLaws();
        reckoned();
        refused();
        letters();
        bounds();
        Due.end();
    }

    private static void fault(String text, int due) {
        Due.is("law " + text, Due.law(new BeggingLetter(), text), due);
    }

    private static void rules() {
        fault("g0(0=0)", 1);
        fault("x(1<2);x(1>2);g1(1=1);t1(1=1);h1(1=1)", 5);
        fault(Due.times("x(p=0);", 15) + "x(p=0)", 16);
        fault("g12345(99999=0)", 1);
        fault("gp+w-r*k/l%d(m=0|!(p=1&w>2)|[3]<4)", 1);
        fault("g1(!!!!!p=0)", 1);
        fault("g1(" + Due.times("p=0|", 58) + "1=1)", 1);
    }

    private static void faults() {
        fault("G1(1=1)", -1000);
        fault("p1(1=1)", -1000);
        fault(" g1(1=1)", -1000);
        fault("g 1(1=1)", -1001);
        fault("g-1(1=1)", -1001);
        fault("g(1=1)", -1001);
        fault("x1(1=1)", -1001);
        fault("x", -1001);
        fault("x(", -1002);
        fault("x()", -1002);
        fault("g1", -1002);
        fault("g1+(1=1)", -1003);
        fault("g1(1)", -1004);
        fault("g1(1=)", -1005);
        fault("g1(1=1", -1006);
        fault("g1(1=1]", -1006);
        fault("g1(1=1))", -1007);
        fault("g1(1=1)g", -1007);
        fault("g1(1=1);", -1008);
        fault("g1(1=1);;", -1008);
        fault("g1(1=1=1)", -1006);
        fault("g1(1=1&)", -1007);
        fault("g1(1=1|&1=1)", -1007);
        fault("g1(!)", -1004);
        fault("g1((1=1)=1)", -1008);
        fault("g1((1)=1)", -1005);
        fault("g[1(1=1)", -1003);
        fault("g[1](1=1", -1008);
        fault("g[](1=1)", -1002);
        fault("g1](1=1)", -1002);
        fault("g1p(1=1)", -1002);
        fault("gx(1=1)", -1001);
        fault("gg(1=1)", -1001);
        fault("g1(h=1)", -1003);
        fault("g123456(1=1)", -2006);
        fault("g1(1=000000)", -2010);
        fault("g99999(1=1);g99999(1=123456)", -2026);
        fault("g1(1=1)\0", -1007);
        fault("g1(1=\u00ff)", -1005);
        String sixteen = Due.times("g1(1=1);", 16);
        fault(sixteen + "x", -4128);
        fault(sixteen + "h", -4128);
        fault(sixteen + "p", -1128);
        fault(sixteen, -1128);
        fault(sixteen.substring(0, 127), 16);
    }

    private static void depth() {
        fault("x((((((1=1))))))", 1);
        fault("x(((((((1=1)))))))", -5007);
        fault("x((((((", -1007);
        fault("x(((((((", -5007);
        fault("x(!!!!!1=1)", 1);
        fault("x(!!!!!!1=1)", -5007);
        fault("x(!!!!![1]=1)", -5007);
        fault("x(!!!!!(1=1))", -5007);
        fault("x(!!!!!1=1&!!!!!1=1)", 1);
        fault("x([[[[[1]]]]]=[[[[[1]]]]])", 1);
        fault("x([[[[[[1]]]]]]=1)", -5007);
        fault("x(!1=[[[[[1]]]]])", -5009);
        fault("g[[[[[[1]]]]]](1=1)", 1);
        fault("g[[[[[[[1]]]]]]](1=1)", -5007);
        fault("x(!!!!!1+(", -1009);
        fault("x((((((1=(", -1009);
        fault("x((((((1=[", -5009);
        fault("x((((((1=1)|[1]=1)|!1=1))))", 1);
        fault("x((((((1=1)|[[1]]=1)|!1=1))))", -5013);
    }

    /** With a FAULT the law before stays. */
    private static void stays() {
        BeggingLetter x = one();
        Due.is("law", Due.law(x, "g7(1=1);t1(1=1)"), 2);
        Due.is("fault", Due.law(x, "g9(1=1);g"), -1009);
        Due.is("rules", x.count(6), 2);
        Due.is("as before", x.bestMonth(0, 0, 1), 7);
        Due.is("law again", Due.law(x, "g8(1=1)"), 1);
        Due.is("rules again", x.count(6), 1);
        Due.is("in place", x.bestMonth(0, 0, 1), 8);
        Due.is("fault again", Due.law(x, "g9(1=1);g1(1=1);"), -1016);
        Due.is("rules as again", x.count(6), 1);
        Due.is("as again", x.bestMonth(0, 0, 1), 8);
    }

    /** However many laws came before. */
    private static void manyLaws() {
        BeggingLetter x = one();
        for (int i = 0; i < 40; i++) {
            Due.is("law", Due.law(x, "g" + i + "+0*[1+2+3+4+5](1=1&2=2&3=3)"), 1);
            Due.is("given", x.readsMost(0, 1, 100), i);
            Due.is("fault", Due.law(x, "g99+0*[1+2+3+4+5](1=1&2=2&3=3);x"), -1032);
            Due.is("given as before", x.readsMost(0, 1, 100), i);
        }
        x.parish(1, 0);
        x.road(0, 1, 1);
        for (int i = 0; i < 3; i++) {
            Due.law(x, "g1(1=2);g5(1=1)");
        }
        Due.law(x, "g1(1=2)");
        Due.is("no rule of an earlier law", x.readsMost(0, 1, 100), 0);
        for (int i = 0; i < 3; i++) {
            Due.law(x, "x(1=2);x(1=1)");
        }
        Due.is("by x", x.spreads(0, 1), -2);
        Due.law(x, "x(1=2)");
        Due.is("no x of an earlier law", x.spreads(0, 1), 1);
    }

    /** One parish of wealth 37 with a letter of loss 500, in month 0. */
    private static BeggingLetter one() {
        BeggingLetter x = new BeggingLetter();
        x.parish(0, 37);
        x.letter(0, 0, 500);
        return x;
    }

    /** What is given now by a law, in the place of one(). */
    private static void given(String text, int due) {
        BeggingLetter x = one();
        int rules = Due.law(x, text);
        Due.holds(text + " is a law: " + rules, rules > 0);
        Due.is(text, x.readsMost(0, 1, 100), due);
    }

    private static void sum(String sum, int due) {
        given("g" + sum + "(1=1)", due);
    }

    private static void test(String test, boolean due) {
        given("g1(" + test + ")", due ? 1 : 0);
        given("g0(" + test + ");g1(1=1)", due ? 0 : 1);
    }

    private static void reckoned() {
        sum("w", 37);
        sum("l", 500);
        sum("10-3-2", 5);
        sum("100/7/2", 7);
        sum("100%30*2", 20);
        sum("2+3*4", 14);
        sum("2*3+4", 10);
        sum("[2+3]*4", 20);
        sum("7/2*2", 6);
        sum("[2-9]/2+10", 7);
        sum("[2-9]%4+10", 7);
        sum("99999*99999%1000+500", 99999 * 99999 % 1000 + 500);
        sum("[99999*99999]/[10000*1000]", 99999 * 99999 / 10000000);
        sum("[65536-1]*[65536-1]*1000/[32768*16]+999", 65535 * 65535 * 1000 / (32768 * 16) + 999);
        sum("[0-32768]*[32768*2]/[0-1]/[0-65536]/32768", 1);
        sum("[0-32768]*[32768*2]%[0-1]+5", 5);
        test("1<2", true);
        test("2<1", false);
        test("2>1", true);
        test("1>1", false);
        test("1=1", true);
        test("!1=1", false);
        test("!!1=1", true);
        test("1=2|1=1&1=2", false);
        test("1=1|1=1&1=2", true);
        test("(1=2|1=1)&1=2", false);
        test("(1=2|1=1)&1=1", true);
        test("!1=2&1=2", false);
        test("!(1=2&1=2)", true);
        test("1=1&1=1&1=2|2=2", true);
        given("g1(1=2);g2(1=1);g3(1=1)", 2);
        given("g1(1=2);t2(1=1);h3(1=1)", 0);
        given("x(1=1);g9(1=1)", 9);
    }

    private static void refused() {
        sum("5+1/0", 0);
        sum("5+1%0", 0);
        sum("0*[1/0]", 0);
        sum("7-[1/[w-37]]", 0);
        given("g1/0(1=1);g5(1=1)", 0);
        test("1/0=1", false);
        test("!1/0=1", false);
        test("1%0=1", false);
        test("1=1|1/0=1", true);
        test("1/0=1|1=1", false);
        test("1=2&1/0=1|1=1", true);
        test("1=1&1/0=1|1=1", false);
        test("!(1=2&1/0=1)", true);
        test("!(1=1|1/0=1)|1=1", true);
        test("(1=2|1/0=1)|1=1", false);
        test("1=1&(1=2|!(1/0=1))|1=1", false);
        given("g1(1/0=0);g5(1=1)", 5);
    }

    /** What the letters mean, where a letter is heard of and where it is read. */
    private static void letters() {
        BeggingLetter x = new BeggingLetter();
        x.parish(2, 41);
        x.parish(7, 63);
        x.road(2, 7, 19);
        x.letter(3, 2, 800);
        Due.report(x, "Dc:850");
        char[] signs = "pwrkldm".toCharArray();
        int[] heard = {7, 63, 1, 3, 850, 19, 2};
        int[] read = {7, 63, 1, 3, 999, 0, 2};
        x.months(1);
        Due.report(x, "Dh!");
        x.road(2, 7, 0);
        x.months(1);
        x.road(2, 7, 19);
        for (int i = 0; i < signs.length; i++) {
            Due.law(x, "t" + signs[i] + "(1=1);g0(1=1)");
            x.keep();
            x.months(1);
            Due.is("t by " + signs[i], x.toldAt(3, 7), 850 + heard[i]);
            x.undo();
            Due.law(x, "t149(" + signs[i] + "=" + heard[i] + ");g" + signs[i] + "(1=1)");
            Due.is("g by " + signs[i], x.tried(1, 13), (read[i] * 2 + 2) / 3);
            Due.law(x, "x(" + signs[i] + "=" + heard[i] + ")");
            Due.is("x by " + signs[i], x.spreads(3, 7), signs[i] == 'm' ? 2 : -2);
            Due.law(x, "x(!" + signs[i] + "=" + heard[i] + ")");
            Due.is("not x by " + signs[i], x.spreads(3, 7), 1);
            Due.law(x, "t149(1=1);h10(" + signs[i] + "=" + read[i] + ")");
            Due.is("h by " + signs[i], x.tried(1, 1), 1);
            Due.law(x, "t149(1=1);h10(!" + signs[i] + "=" + read[i] + ")");
            Due.is("not h by " + signs[i], x.tried(1, 1), 0);
        }
    }

    private static void bounds() {
        sum("999", 999);
        sum("1000", 999);
        sum("99999", 999);
        sum("0-1", 0);
        sum("99999*99999", 99999 * 99999 > 0 ? 999 : 0);
        BeggingLetter x = one();
        x.parish(1, 1);
        x.road(0, 1, 1);
        Due.law(x, "t1000(1=1)");
        Due.is("t", x.spreads(0, 1), 1);
        x.keep();
        x.months(1);
        Due.is("t is 999 at most", x.toldAt(0, 1), 500 + 999);
        x.undo();
        Due.law(x, "t0-5(1=1)");
        x.months(1);
        Due.is("t is 0 at least", x.toldAt(0, 1), 500);
        for (int h = 8; h <= 12; h++) {
            BeggingLetter y = one();
            y.seed(0);
            Due.law(y, "h" + h + "(1=1)");
            // 13849 is drawn behind 0: 9
            Due.is("h " + h, y.tried(1, 1), h >= 10 ? 1 : 0);
        }
        BeggingLetter z = one();
        Due.law(z, "h0-1(1=1)");
        Due.is("h below 0", z.tried(1, 0), 1);
    }
}
