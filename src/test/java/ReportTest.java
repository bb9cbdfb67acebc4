/** Promise 7: REPORTS, what they do, and their FAULTS. */
final class ReportTest {
    private ReportTest() {
    }

    public static void main(String[] args) {
        done();
        faults();
        nothingByFault();
        full();
        Due.end();
    }

    private static BeggingLetter some() {
        BeggingLetter x = new BeggingLetter();
        x.parish(0, 5);
        x.parish(11, 5);
        x.letter(0, 0, 900);
        x.letter(5, 11, 800);
        return x;
    }

    private static void done() {
        BeggingLetter x = some();
        Due.is("known elsewhere", Due.report(x, "Al:0"), 1);
        Due.is("as 0", x.toldAt(0, 11), 0);
        Due.is("known bits", x.letterIs(0, 4), 1 + 2048);
        Due.is("known as more", Due.report(x, "Al:9999;Al:0042"), 2);
        Due.is("the last line", x.toldAt(0, 11), 42);
        Due.is("not read", x.letterIs(0, 5), 0);
        int[] funds = {0, 1, 2, 2, 3, 4, 4};
        int fund = 0;
        int farmed = 0;
        for (int pence = 0; pence < funds.length; pence++) {
            Due.is("given " + pence, Due.report(x, "Fl+" + pence), 1);
            fund += funds[pence];
            farmed += pence - funds[pence];
            Due.is("two thirds, rounded up, of " + pence, x.letterIs(5, 2), fund);
            Due.is("the rest of " + pence, x.count(2), farmed);
        }
        Due.is("it is read there", x.letterIs(5, 5), 2048);
        Due.is("twice", Due.report(x, "Fl+0"), 1);
        Due.is("it is still read there", x.letterIs(5, 5), 2048);
        Due.is("read where it is not known", Due.report(x, "Fa+3"), 1);
        Due.is("read bits", x.letterIs(5, 5), 2049);
        Due.is("still not known", x.toldAt(5, 0), -2);
        Due.is("not known, not read", Due.report(x, "Fl!;Fa!"), 2);
        Due.is("nowhere known", x.letterIs(5, 4), 0);
        Due.is("nowhere read", x.letterIs(5, 5), 0);
        Due.is("what was given stays", x.letterIs(5, 2), fund + 2);
        Due.is("known again", Due.report(x, "Fl:7;Fl+1;Fl:8"), 3);
        Due.is("read all the same", x.letterIs(5, 5), 2048);
        Due.is("a letter that is rebuilt, too", Due.report(x, "Aa+9999"), 1);
        x.months(1);
        Due.is("not in force", x.letterIs(0, 3), 0);
        Due.is("report of it", Due.report(x, "Aa:77;Aa+3"), 2);
        Due.is("as told", x.toldAt(0, 0), 77);
        Due.is("given", x.letterIs(0, 2), 6668);
    }

    private static void fault(String text, int due) {
        Due.is("report " + text, Due.report(some(), text), due);
    }

    private static void faults() {
        fault("a", -1000);
        fault("Ga:1", -1000);
        fault(";Aa:1", -1000);
        fault("\u00ff", -1000);
        fault("A", -1001);
        fault("AA", -1001);
        fault("Am:1", -1001);
        fault("A;", -1001);
        fault("A:1", -1001);
        fault("A!", -1001);
        fault("A+1", -1001);
        fault("A`:1", -1001);
        fault("Aa", -1002);
        fault("Aa;", -1002);
        fault("Aa-1", -1002);
        fault("Aa 1", -1002);
        fault("Aa:", -1003);
        fault("Aa+", -1003);
        fault("Aa:;", -1003);
        fault("Aa:x", -1003);
        fault("Aa:1x", -1004);
        fault("Aa:12,", -1005);
        fault("Aa:1234", 1);
        fault("Aa:12345", -2007);
        fault("Aa+00000", -2007);
        fault("Aa:1234x", -1007);
        fault("Aa!1", -1003);
        fault("Aa!!", -1003);
        fault("Aa!;", -1004);
        fault("Aa:1;;", -1005);
        fault("Ba:1", -7000);
        fault("B", -7000);
        fault("Ab:1", -7001);
        fault("Ab", -7001);
        fault("Aa:1;Ca!", -7005);
        fault("Aa:1;Fb!", -7006);
        fault("Bb:12345", -7000);
        String twenty = Due.times("Aa!;", 20);
        fault(twenty.substring(0, 79), 20);
        fault(twenty, -1080);
        fault(twenty + "A", -4080);
        fault(twenty + "B", -4080);
        fault(twenty + "Aa!", -4080);
        fault(twenty + "G", -1080);
        fault(twenty + "a", -1080);
        fault(twenty.substring(0, 79) + "x", -1079);
    }

    private static void nothingByFault() {
        BeggingLetter x = some();
        Due.is("a fault at its end", Due.report(x, "Aa:7;Al:8;Aa+99;Fl!;Fl"), -1022);
        Due.is("told as before", x.toldAt(0, 0), 900);
        Due.is("none without a fault is kept from", Due.report(x, "Aa:900"), 1);
        Due.is("known as before", x.letterIs(0, 4), 1);
        Due.is("fund as before", x.letterIs(0, 2), 0);
        Due.is("farmed as before", x.count(2), 0);
        Due.is("known as before", x.letterIs(5, 4), 2048);
    }

    /** FUND and FARMED are 999999 at most; a text of 120 bytes is the longest. */
    private static void full() {
        BeggingLetter x = some();
        String much = Due.times("Fa+9999;", 14) + "Fa+9999";
        Due.is("119 bytes", Due.report(x, much), 15);
        Due.is("15 times two thirds", x.letterIs(5, 2), 15 * 6666);
        for (int i = 0; i < 9; i++) {
            Due.report(x, much);
        }
        Due.is("nearly full", x.letterIs(5, 2), 150 * 6666);
        Due.is("farmed", x.count(2), 150 * 3333);
        Due.report(x, "Fa+0200");
        Due.is("full", x.letterIs(5, 2), 999999);
        for (int i = 0; i < 11; i++) {
            Due.report(x, much);
        }
        Due.is("still full", x.letterIs(5, 2), 999999);
        Due.is("farmed is full", x.count(2), 999999);
        Due.is("120 bytes", Due.report(x, Due.times("Aa:1234;", 13) + "Aa:123;Aa!;Aa:12"), 16);
        Due.is("by them", x.toldAt(0, 0), 12);
        Due.feed(x, Due.bytes(Due.times("Aa!;", 30) + "A"));
        Due.is("121 bytes", x.report(121), -1);
    }
}
