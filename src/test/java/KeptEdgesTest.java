import java.util.function.Consumer;

/** Promises 1, 2, 4, 29 to 32 at their bounds: a new object, what is told anew, what is KEPT and UNDONE, CHECK. */
final class KeptEdgesTest {
    private KeptEdgesTest() {
    }

    public static void main(String[] args) {
        newObject();
        parishAnew();
        letterAnew();
        noneKept();
        keptMonth();
        keptLast();
        eachThingUndone();
        notUndone();
        toldSince();
        checkOfAll();
        checkUntold();
        counts();
        Due.end();
    }

    /** Promise 1: "No PARISHES, LETTERS, LAW; THE SEED 1"; all that is 0 at first is. */
    private static void newObject() {
        BeggingLetter x = new BeggingLetter();
        int[] due = {0, 0, 0, 0, 0, 0, 0, 0, 1, 0, -1, -1, -1, -1, -1, -1, -1};
        for (int what = 0; what < due.length; what++) {
            Due.is("count " + what, x.count(what), due[what]);
        }
        for (int p = 0; p < 12; p++) {
            Due.is("parish " + p, x.parishIs(p, 0), -1);
            Due.is("miles " + p, x.miles(p, p), -1);
        }
        for (int k = 0; k < 6; k++) {
            Due.is("letter " + k, x.letterIs(k, 0), -1);
            Due.is("text " + k, x.far(k, k), -2);
        }
        Due.is("none kept", x.undo(), false);
        x.parish(0, 7);
        x.parish(1, 7);
        Due.is("no road", x.miles(0, 1), -2);
        Due.is("not tired", x.parishIs(0, 1), 0);
        Due.is("nothing known", x.parishIs(0, 2), 0);
        Due.is("nothing read", x.parishIs(0, 3), 0);
    }

    /** Promise 2: "in place of the one before; ROADS, what is KNOWN stay". */
    private static void parishAnew() {
        BeggingLetter x = Given.row(3);
        x.months(1);
        for (int wealth : new int[] {0, 99}) {
            Due.is("told anew", x.parish(1, wealth), true);
            Due.is("its wealth", x.parishIs(1, 0), wealth);
            Due.is("roads stay", x.miles(0, 2), 4);
            Due.is("known stays", x.toldAt(0, 1), 100);
            Due.is("known bits stay", x.parishIs(1, 2), 1);
            Due.is("told ones", x.count(3), 7);
            Due.is("others are as before", x.parishIs(2, 0), 12);
        }
    }

    /** Promise 4: "in place of the one before: in force, FUND 0, KNOWN at HOME alone, READ nowhere; its TEXT stays". */
    private static void letterAnew() {
        BeggingLetter x = Given.row(4);
        Due.text(x, 0, "burnt");
        Due.report(x, "Ab:777;Ac:888;Aa+999;Ab+9");
        x.months(1);
        Due.is("not in force", x.letterIs(0, 3), 0);
        Due.is("told anew", x.letter(0, 3, 9999), true);
        int[] due = {3, 9999, 0, 1, 8, 0};
        for (int what = 0; what < due.length; what++) {
            Due.is("letterIs " + what, x.letterIs(0, what), due[what]);
        }
        Due.is("known at home", x.toldAt(0, 3), 9999);
        for (int p = 0; p < 3; p++) {
            Due.is("not known in " + p, x.toldAt(0, p), -2);
        }
        Due.is("its text", x.count(10), 5);
        Due.is("rebuilt is as it was", x.count(1), 1);
        Due.is("farmed is as it was", x.count(2), 333 + 3);
        Due.is("read again", x.months(1), 2);
    }

    /** Promise 30: "false: none was KEPT", however much has been done. */
    private static void noneKept() {
        BeggingLetter x = Given.row(3);
        Due.is("none", x.undo(), false);
        x.months(5);
        x.seed(9);
        Due.is("none still", x.undo(), false);
        Due.is("the month", x.count(0), 5);
        Due.is("X", x.count(8), 9);
        x.keep();
        Due.is("one", x.undo(), true);
        Due.is("again", x.undo(), true);
    }

    /** Promise 29: "KEPT: THE MONTH". */
    private static void keptMonth() {
        BeggingLetter x = new BeggingLetter();
        Due.is("0", x.keep(), 0);
        x.months(1);
        Due.is("1", x.keep(), 1);
        x.months(60);
        Due.is("61", x.keep(), 61);
        Due.is("61 again", x.keep(), 61);
    }

    /** "UNDONE: as they were KEPT last", as often as one likes. */
    private static void keptLast() {
        BeggingLetter x = new BeggingLetter();
        x.parish(0, 1);
        x.keep();
        x.parish(0, 2);
        x.keep();
        x.parish(0, 3);
        for (int times = 0; times < 3; times++) {
            Due.is("undone", x.undo(), true);
            Due.is("the last", x.parishIs(0, 0), 2);
            x.parish(0, 50 + times);
        }
        x.keep();
        x.undo();
        Due.is("what is kept later", x.parishIs(0, 0), 52);
    }

    /** WEALTH, LETTERS, FUNDS, FARMED, THE MONTH, REBUILT, what PARISHES remember, X: one by one. */
    private static void eachThingUndone() {
        undone("wealth", x -> x.parish(2, 99));
        undone("a letter", x -> x.letter(5, 0, 50));
        undone("a letter anew", x -> x.letter(0, 2, 50));
        undone("what is known", x -> Due.report(x, "Aa:9;Ac:8"));
        undone("what is not known", x -> Due.report(x, "Aa!;Bb!"));
        undone("what is given", x -> Due.report(x, "Ac+77;Bc+9"));
        undone("a month", x -> x.months(1));
        undone("sixty months", x -> x.months(60));
        undone("X", x -> x.seed(65535));
    }

    private static void undone(String name, Consumer<BeggingLetter> call) {
        BeggingLetter x = Given.row(3);
        x.letter(1, 1, 3);
        Due.law(x, "g30(1=1);t7(1=1)");
        x.months(1);
        Due.report(x, "Ba+5;Ab+3");
        int[] before = seen(x);
        x.keep();
        call.accept(x);
        boolean isOther = false;
        int[] now = seen(x);
        for (int i = 0; i < now.length; i++) {
            isOther |= now[i] != before[i];
        }
        Due.holds(name + " is another one", isOther);
        x.undo();
        now = seen(x);
        for (int i = 0; i < now.length; i++) {
            Due.is(name + " undone, " + i, now[i], before[i]);
        }
    }

    private static int[] seen(BeggingLetter x) {
        int[] seen = {x.count(0), x.count(1), x.count(2), x.count(4), x.count(5), x.count(8), x.parishIs(0, 0),
            x.parishIs(1, 0), x.parishIs(2, 0), x.parishIs(0, 1), x.parishIs(1, 1), x.parishIs(2, 1), x.letterIs(0, 0),
            x.letterIs(0, 1), x.letterIs(0, 2), x.letterIs(0, 4), x.letterIs(0, 5), x.letterIs(1, 2), x.letterIs(1, 4),
            x.letterIs(1, 5), x.toldAt(0, 0), x.toldAt(0, 1), x.toldAt(0, 2), x.toldAt(1, 1), x.bestMonth(0, 0, 0)};
        return seen;
    }

    /** What is not KEPT is not UNDONE: TEXTS, ROADS, THE LAW, the tape, that a PARISH is told. */
    private static void notUndone() {
        BeggingLetter x = Given.row(3);
        Due.law(x, "g1(1=1)");
        Due.text(x, 0, "a");
        x.keep();
        Due.law(x, "g2(1=1);x(1=1)");
        Due.text(x, 0, "abc");
        Due.text(x, 1, "ab");
        x.road(0, 1, 50);
        x.road(1, 2, 0);
        x.feed(1, 2, 3, 4, 5);
        x.undo();
        Due.is("rules", x.count(6), 2);
        Due.is("gift", x.bestMonth(0, 0, 1), 2);
        Due.is("a text", x.count(10), 3);
        Due.is("a new text", x.count(11), 2);
        Due.is("a road", x.miles(0, 1), 50);
        Due.is("no road", x.miles(0, 2), -2);
        Due.is("the tape", x.count(7), 20);
    }

    /** "(a PARISH told since stays told, with WEALTH 0)". */
    private static void toldSince() {
        for (int p = 3; p < 12; p++) {
            BeggingLetter x = Given.row(3);
            x.keep();
            x.parish(p, 99);
            x.road(0, p, 7);
            x.months(1);
            Due.is("it knows", x.parishIs(p, 2), 1);
            Due.is("it is tired", x.parishIs(p, 1), 1);
            x.undo();
            Due.is("told", x.count(3), 7 | 1 << p);
            Due.is("wealth 0", x.parishIs(p, 0), 0);
            Due.is("it knows nothing", x.parishIs(p, 2), 0);
            Due.is("it read nothing", x.parishIs(p, 3), 0);
            Due.is("it is not tired", x.parishIs(p, 1), 0);
            Due.is("its road stays", x.miles(0, p), 7);
            Due.is("those of before", x.parishIs(2, 0), 12);
            Due.is("may be a home", x.letter(5, p, 9), true);
        }
        BeggingLetter x = new BeggingLetter();
        x.keep();
        x.parish(0, 5);
        x.undo();
        x.parish(0, 6);
        x.keep();
        x.parish(0, 7);
        x.undo();
        Due.is("kept with its wealth the next time", x.parishIs(0, 0), 6);
    }

    /** CHECK: "right, or the first that is not so": each PARISH in its place, one less, one more. */
    private static void checkOfAll() {
        for (int n = 0; n <= 12; n++) {
            BeggingLetter x = Given.parishes(12);
            int[] wealth = {10, 11, 12, 13, 14, 15, 16, 17, 18, 19, 20, 21};
            Due.feed(x, wealth);
            Due.is("right, " + n, x.check(n), -1);
            Due.is("empty then", x.count(7), 0);
            for (int wrong = 0; wrong < 12; wrong++) {
                for (int by = -1; by <= 1; by += 2) {
                    wealth[wrong] += by;
                    Due.feed(x, wealth);
                    Due.is("wrong in " + wrong + " of " + n, x.check(n), wrong < n ? wrong : -1);
                    wealth[wrong] -= by;
                }
            }
            wealth[3] = 255;
            wealth[7] = 0;
            Due.feed(x, wealth);
            Due.is("the first of two", x.check(n), n > 3 ? 3 : -1);
        }
    }

    /** "Of PARISHES that are not told 0". */
    private static void checkUntold() {
        for (int p = 0; p < 12; p++) {
            BeggingLetter x = new BeggingLetter();
            Due.feed(x, new int[12]);
            Due.is("all 0", x.check(12), -1);
            int[] one = new int[12];
            one[p] = 1;
            Due.feed(x, one);
            Due.is("1 of one that is not told", x.check(12), p);
            x.parish(p, 99);
            one[p] = 99;
            Due.feed(x, one);
            Due.is("99 of one that is", x.check(12), -1);
            x.parish(p, 0);
            Due.feed(x, new int[12]);
            Due.is("0 of one that is", x.check(12), -1);
        }
    }

    /** Promise 32: each number, and bits of the lowest and the highest. */
    private static void counts() {
        BeggingLetter x = Given.all();
        Due.is("told parishes", x.count(3), 4095);
        Due.is("told letters", x.count(4), 63);
        Due.is("in force", x.count(5), 63);
        for (int k = 0; k < 6; k++) {
            Due.text(x, k, Due.times("a", 1 + k * 7));
            Due.is("letters with a text", x.count(9), (2 << k) - 1);
            Due.is("length", x.count(10 + k), 1 + k * 7);
        }
        Due.report(x, "Ff+9999");
        x.months(1);
        Due.is("in force but for the last", x.count(5), 31);
        Due.is("told all the same", x.count(4), 63);
        Due.is("rebuilt", x.count(1), 1);
        Due.is("farmed", x.count(2), 3333);
        Due.is("the month", x.count(0), 1);
        Due.law(x, "x(1=1)");
        Due.is("rules", x.count(6), 1);
        BeggingLetter y = new BeggingLetter();
        y.parish(11, 0);
        y.letter(5, 11, 1);
        Due.is("the highest parish", y.count(3), 2048);
        Due.is("the highest letter", y.count(4), 32);
        Due.is("in force", y.count(5), 32);
    }
}
