/** Promises 1 to 4, 11 to 13, 32: a new object, PARISHES, ROADS, LETTERS, and what they are. */
final class PlacesTest {
    private PlacesTest() {
    }

    public static void main(String[] args) {
        newObject();
        parishes();
        roads();
        letters();
        parishIs();
        Due.end();
    }

    private static void newObject() {
        BeggingLetter x = new BeggingLetter();
        for (int what = 0; what < 10; what++) {
            Due.is("new count " + what, x.count(what), what == 8 ? 1 : 0);
        }
        for (int what : new int[] {-1, 10, 15, 16, 100, Integer.MIN_VALUE, Integer.MAX_VALUE}) {
            Due.is("new count " + what, x.count(what), -1);
        }
        for (int p = -1; p <= 12; p++) {
            Due.is("new parishIs", x.parishIs(p, 0), -1);
        }
        for (int k = -1; k <= 6; k++) {
            Due.is("new letterIs", x.letterIs(k, 0), -1);
        }
        Due.is("new undo", x.undo(), false);
        Due.is("NONE", BeggingLetter.NONE, -1);
    }

    private static void parishes() {
        BeggingLetter x = new BeggingLetter();
        Due.is("parish -1", x.parish(-1, 0), false);
        Due.is("parish 12", x.parish(12, 0), false);
        Due.is("wealth -1", x.parish(0, -1), false);
        Due.is("wealth 100", x.parish(0, 100), false);
        Due.is("none told", x.count(3), 0);
        Due.is("parish 0", x.parish(0, 0), true);
        Due.is("parish 11", x.parish(11, 99), true);
        Due.is("told", x.count(3), 1 + 2048);
        Due.is("wealth of 11", x.parishIs(11, 0), 99);
        x.parish(1, 5);
        x.road(0, 1, 7);
        x.letter(0, 1, 50);
        Due.law(x, "t5(1=1);g9(1=1)");
        x.months(1);
        Due.is("parish again", x.parish(1, 6), true);
        Due.is("its new wealth", x.parishIs(1, 0), 6);
        Due.is("its road stays", x.miles(0, 1), 7);
        Due.is("what is known stays", x.toldAt(0, 1), 50);
        Due.is("what is read stays", x.parishIs(1, 3), 1);
        Due.is("a false one changes nothing", x.parish(1, 100), false);
        Due.is("wealth as before", x.parishIs(1, 0), 6);
    }

    private static void roads() {
        BeggingLetter x = new BeggingLetter();
        x.parish(0, 1);
        x.parish(1, 1);
        Due.is("untold", x.road(0, 2, 5), false);
        Due.is("untold first", x.road(2, 0, 5), false);
        Due.is("no such", x.road(-1, 0, 5), false);
        Due.is("no such", x.road(0, 12, 5), false);
        Due.is("the same", x.road(1, 1, 5), false);
        Due.is("miles -1", x.road(0, 1, -1), false);
        Due.is("miles 100", x.road(0, 1, 100), false);
        Due.is("none yet", x.miles(0, 1), -2);
        Due.is("miles 99", x.road(0, 1, 99), true);
        Due.is("there", x.miles(0, 1), 99);
        Due.is("and back", x.miles(1, 0), 99);
        Due.is("miles 1", x.road(1, 0, 1), true);
        Due.is("in place", x.miles(0, 1), 1);
        Due.is("miles 0", x.road(0, 1, 0), true);
        Due.is("no road more", x.miles(0, 1), -2);
        Due.is("0 where none is", x.road(0, 1, 0), true);
    }

    private static void letters() {
        BeggingLetter x = new BeggingLetter();
        x.parish(3, 10);
        x.parish(4, 10);
        Due.is("letter -1", x.letter(-1, 3, 5), false);
        Due.is("letter 6", x.letter(6, 3, 5), false);
        Due.is("home untold", x.letter(0, 2, 5), false);
        Due.is("home -1", x.letter(0, -1, 5), false);
        Due.is("home 12", x.letter(0, 12, 5), false);
        Due.is("loss 0", x.letter(0, 3, 0), false);
        Due.is("loss 10000", x.letter(0, 3, 10000), false);
        Due.is("letter 5", x.letter(5, 3, 9999), true);
        Due.is("told", x.count(4), 32);
        Due.is("in force", x.count(5), 32);
        int[] due = {3, 9999, 0, 1, 8, 0, -1};
        for (int what = 0; what < due.length; what++) {
            Due.is("letterIs " + what, x.letterIs(5, what), due[what]);
        }
        Due.is("letterIs -1", x.letterIs(5, -1), -1);
        Due.is("toldAt home", x.toldAt(5, 3), 9999);
        Due.is("toldAt elsewhere", x.toldAt(5, 4), -2);
        Due.is("toldAt untold parish", x.toldAt(5, 5), -1);
        Due.is("toldAt untold letter", x.toldAt(4, 3), -1);
        Due.is("toldAt no such", x.toldAt(6, 3), -1);
        Due.is("toldAt no such", x.toldAt(5, 12), -1);
        Due.text(x, 5, "burnt");
        Due.report(x, "Fd+9999;Fe:77;Fd+9999");
        Due.is("fund", x.letterIs(5, 2), 13332);
        x.months(1);
        Due.is("rebuilt", x.letterIs(5, 3), 0);
        Due.is("letter again", x.letter(5, 4, 12), true);
        int[] again = {4, 12, 0, 1, 16, 0};
        for (int what = 0; what < again.length; what++) {
            Due.is("letterIs again " + what, x.letterIs(5, what), again[what]);
        }
        Due.is("told at its new home", x.toldAt(5, 4), 12);
        Due.is("its text stays", x.count(15), 5);
        Due.is("what was farmed stays", x.count(2), 6666);
        Due.is("rebuilt stays", x.count(1), 1);
    }

    private static void parishIs() {
        BeggingLetter x = new BeggingLetter();
        for (int p = 0; p < 3; p++) {
            x.parish(p, 10 * p);
        }
        x.letter(0, 1, 5000);
        x.letter(1, 1, 5000);
        x.letter(3, 1, 5000);
        Due.is("known bits", x.parishIs(1, 2), 11);
        Due.is("read bits", x.parishIs(1, 3), 0);
        Due.report(x, "Db+1");
        Due.is("read by a report", x.parishIs(1, 3), 8);
        Due.is("a report does not tire", x.parishIs(1, 1), 0);
        int[] tired = {1, 2, 2, 1, 0};
        int[] read = {9, 11, 11, 11, 11};
        for (int month = 0; month < tired.length; month++) {
            x.months(1);
            Due.is("tired behind month " + month, x.parishIs(1, 1), tired[month]);
            Due.is("read behind month " + month, x.parishIs(1, 3), read[month]);
        }
        Due.is("no such what", x.parishIs(1, 4), -1);
        Due.is("no such what", x.parishIs(1, -1), -1);
        Due.is("no such parish", x.parishIs(12, 0), -1);
        Due.is("no such parish", x.parishIs(-1, 0), -1);
    }
}
