/** Promises 9, 10, 27, 28: MONTHS that go by, that are tried, what is lent, THE SEED. */
final class MonthsTest {
    private MonthsTest() {
    }

    public static void main(String[] args) {
        arguments();
        hearing();
        likeRoads();
        reading();
        draws();
        rebuilding();
        lastMonth();
        trying();
        lending();
        caps();
        Due.end();
    }

    private static void arguments() {
        BeggingLetter x = new BeggingLetter();
        for (int n : new int[] {-1, 0, 61, Integer.MIN_VALUE, Integer.MAX_VALUE}) {
            Due.is("months " + n, x.months(n), -1);
            Due.is("tried " + n, x.tried(n, 0), -1);
        }
        Due.is("no month went by", x.count(0), 0);
        Due.is("months 60", x.months(60), 0);
        Due.is("the month", x.count(0), 60);
        Due.is("no draw", x.count(8), 1);
        x.parish(0, 1);
        x.letter(2, 0, 1);
        for (int what = -2; what <= 20; what++) {
            boolean isAny = what >= 0 && what <= 3 || what == 12;
            Due.is("tried what " + what, x.tried(1, what) == -1, !isAny);
        }
        Due.is("lent untold", x.lent(1, 1, 0), -1);
        Due.is("lent no such", x.lent(6, 1, 0), -1);
        Due.is("lent 0 months", x.lent(2, 0, 0), -1);
        Due.is("lent 61 months", x.lent(2, 61, 0), -1);
        Due.is("lent -1 hundredths", x.lent(2, 1, -1), -1);
        Due.is("lent 11 hundredths", x.lent(2, 1, 11), -1);
        Due.is("seed -1", x.seed(-1), false);
        Due.is("seed 65536", x.seed(65536), false);
        Due.is("X as before", x.count(8), 1);
        Due.is("seed 0", x.seed(0), true);
        Due.is("X", x.count(8), 0);
        Due.is("seed 65535", x.seed(65535), true);
        Due.is("X", x.count(8), 65535);
    }

    /** Parishes in a row: each month one more hears, told larger each time. */
    private static void hearing() {
        BeggingLetter x = new BeggingLetter();
        for (int p = 0; p < 12; p++) {
            x.parish(p, p);
        }
        for (int p = 0; p < 11; p++) {
            x.road(p, p + 1, p + 1);
        }
        x.letter(0, 0, 9999);
        x.letter(1, 11, 100);
        Due.law(x, "t10*d(k=0);t1(1=1)");
        int told = 9999;
        for (int p = 1; p < 12; p++) {
            x.months(1);
            told += 10 * p;
            Due.is("told in " + p, x.toldAt(0, p), told);
            Due.is("known so far", x.letterIs(0, 4), (1 << p + 1) - 1);
            Due.is("the other one", x.toldAt(1, 11 - p), 100 + p);
        }
    }

    /** The fewest miles, then the lowest, of those where it was known when the month began and by x. */
    private static void likeRoads() {
        BeggingLetter x = new BeggingLetter();
        for (int p = 0; p < 6; p++) {
            x.parish(p, 0);
        }
        x.road(5, 1, 4);
        x.road(5, 2, 4);
        x.road(5, 3, 3);
        x.road(5, 4, 1);
        x.letter(0, 0, 10);
        Due.report(x, "Ab:20;Ac:30;Ad:40");
        x.keep();
        x.months(1);
        Due.is("the fewest miles", x.toldAt(0, 5), 40);
        x.undo();
        Due.law(x, "x(d=3)");
        x.months(1);
        Due.is("of like ones the lowest", x.toldAt(0, 5), 20);
        x.undo();
        Due.law(x, "x(d<4);x(l=20)");
        x.months(1);
        Due.is("of those by which it hears", x.toldAt(0, 5), 30);
        x.undo();
        Due.law(x, "x(1=1)");
        x.months(1);
        Due.is("by none", x.toldAt(0, 5), -2);
        x.undo();
        x.road(4, 0, 9);
        Due.law(x, "x(1=2)");
        x.months(1);
        Due.is("4 hears in this month, not ahead of 5", x.toldAt(0, 5), 40);
        Due.is("4", x.toldAt(0, 4), 10);
    }

    private static void reading() {
        BeggingLetter x = new BeggingLetter();
        x.parish(0, 10);
        x.parish(1, 20);
        x.letter(0, 0, 5000);
        x.letter(2, 0, 5000);
        x.letter(5, 1, 5000);
        Due.law(x, "g100*k+10*r+m(1=1)");
        Due.is("two read", x.months(1), 2);
        Due.is("the lowest first", x.letterIs(0, 5), 1);
        Due.is("the other one not yet", x.letterIs(2, 5), 0);
        Due.is("500 given", x.letterIs(5, 2), 334);
        Due.is("farmed", x.count(2), 166);
        Due.is("one read", x.months(1), 1);
        Due.is("211 given", x.letterIs(2, 2), 141);
        Due.is("none left", x.months(1), 0);
        Due.is("as many draws as letters", x.count(8), next(next(next(1))));
        x.letter(0, 0, 5000);
        x.months(1);
        Due.is("a letter anew is read anew: 23 given", x.letterIs(0, 2), 16);
    }

    private static int next(int x) {
        return (int) ((25173L * x + 13849) % 65536);
    }

    private static BeggingLetter unread(String law) {
        BeggingLetter x = new BeggingLetter();
        x.parish(0, 10);
        x.letter(0, 0, 5000);
        Due.law(x, law);
        return x;
    }

    private static void draws() {
        for (int seed = 0; seed < 65536; seed += 97) {
            BeggingLetter x = unread("h5(1=1);g3(1=1)");
            x.seed(seed);
            boolean isHeld = next(seed) % 10 < 5;
            Due.is("held back by seed " + seed, x.tried(1, 1), isHeld ? 1 : 0);
            Due.is("read by seed " + seed, x.tried(1, 0), isHeld ? 0 : 1);
            Due.is("fund by seed " + seed, x.tried(1, 10), isHeld ? 0 : 2);
        }
        BeggingLetter x = unread("h10(1=1)");
        Due.is("held back always", x.months(5), 0);
        int drawn = 1;
        for (int i = 0; i < 5; i++) {
            drawn = next(drawn);
        }
        Due.is("a draw each", x.count(8), drawn);
        Due.is("not tired by what is held back", x.parishIs(0, 1), 0);
        Due.is("still unread", x.letterIs(0, 5), 0);
    }

    private static void rebuilding() {
        BeggingLetter x = new BeggingLetter();
        x.parish(0, 10);
        x.letter(0, 0, 6);
        x.letter(1, 0, 7);
        Due.law(x, "g9(1=1)");
        Due.is("tried", x.tried(1, 3), 1);
        x.months(1);
        Due.is("rebuilt by as much as was lost", x.count(1), 1);
        Due.is("in force", x.count(5), 2);
        x.months(1);
        Due.is("one less is not enough", x.count(1), 1);
        Due.is("in force", x.count(5), 2);
        Due.report(x, "Ba+1");
        Due.is("a report does not rebuild", x.count(1), 1);
        x.months(1);
        Due.is("the month behind it does", x.count(1), 2);
        x.months(1);
        Due.is("once", x.count(1), 2);
        x.parish(1, 0);
        x.road(0, 1, 1);
        x.months(1);
        Due.is("what is not in force does not go on", x.letterIs(0, 4), 1);
        x.letter(3, 0, 1);
        x.letter(4, 0, 1);
        Due.is("in those that are tried", x.tried(1, 3), 1);
        Due.report(x, "Da+3;Ea+3");
        x.months(1);
        Due.is("two in a month", x.count(1), 4);
    }

    private static void lastMonth() {
        BeggingLetter x = new BeggingLetter();
        for (int i = 0; i < 166; i++) {
            x.months(60);
        }
        Due.is("month 9960", x.count(0), 9960);
        x.months(38);
        x.parish(0, 10);
        x.parish(1, 10);
        x.road(0, 1, 1);
        x.letter(0, 0, 9);
        x.letter(1, 0, 9);
        x.letter(2, 0, 9);
        Due.is("tried beyond", x.tried(60, 0), 2);
        Due.is("as many as can", x.months(60), 2);
        Due.is("month 9999", x.count(0), 9999);
        int drawn = x.count(8);
        Due.is("none goes by", x.months(1), 0);
        Due.is("month 9999", x.count(0), 9999);
        Due.is("no draw", x.count(8), drawn);
        Due.is("tired for good", x.parishIs(0, 1), 1);
        Due.is("keep", x.keep(), 9999);
    }

    private static void trying() {
        for (int n = 1; n <= 20; n++) {
            BeggingLetter x = new BeggingLetter();
            for (int p = 0; p < 5; p++) {
                x.parish(p, 20 * p);
            }
            for (int p = 0; p < 4; p++) {
                x.road(p, p + 1, 3 + p);
            }
            x.letter(0, 2, 60);
            x.letter(4, 0, 900);
            Due.law(x, "g30+w-r(1=1);t3*d(1=1);h4(m<4);h2(1=1)");
            Due.report(x, "Ac+" + 7 * n);
            x.seed(n * 77);
            int before = digest(x);
            int[] tried = {x.tried(n, 0), x.tried(n, 1), x.tried(n, 2), x.tried(n, 3), x.tried(n, 10), x.tried(n, 14)};
            Due.is("nothing is changed", digest(x), before);
            int farmed = x.count(2);
            Due.is("read in " + n, x.months(n), tried[0]);
            Due.is("farmed in " + n, x.count(2) - farmed, tried[2]);
            Due.is("rebuilt in " + n, x.count(1), tried[3]);
            Due.is("fund behind " + n, x.letterIs(0, 2), tried[4]);
            Due.is("fund behind " + n, x.letterIs(4, 2), tried[5]);
        }
    }

    private static int digest(BeggingLetter x) {
        int digest = 0;
        for (int what = 0; what < 10; what++) {
            digest = digest * 31 + x.count(what);
        }
        for (int k = 0; k < 6; k++) {
            for (int what = 0; what < 6; what++) {
                digest = digest * 31 + x.letterIs(k, what);
            }
            for (int p = 0; p < 12; p++) {
                digest = digest * 31 + x.toldAt(k, p);
                digest = digest * 31 + x.parishIs(p, k);
            }
        }
        return digest;
    }

    private static void lending() {
        BeggingLetter x = new BeggingLetter();
        x.parish(0, 10);
        x.letter(0, 0, 9999);
        Due.is("nothing", x.lent(0, 1, 0), 0);
        Due.report(x, "Aa+30");
        // the fund is 20, of which two thirds are 13
        Due.is("two thirds", x.lent(0, 60, 0), 13);
        Due.is("one hundredth is rounded up", x.lent(0, 1, 1), 12);
        Due.is("seven", x.lent(0, 7, 1), 12);
        Due.is("eight", x.lent(0, 8, 1), 11);
        Due.is("half", x.lent(0, 5, 10), 6);
        Due.is("all", x.lent(0, 10, 10), 0);
        Due.is("more than all", x.lent(0, 60, 10), 0);
        Due.report(x, "Aa!;Aa:50");
        Due.law(x, "g300(m=2);h10(!m=2)");
        Due.is("what will be: not yet", x.lent(0, 2, 0), 13);
        Due.is("what will be: 220, 146", x.lent(0, 3, 0), 146);
        Due.is("nothing is changed", x.letterIs(0, 2), 20);
        Due.is("with 10 in the hundred a month", x.lent(0, 3, 10), 146 - 44);
    }

    /** A LOSS is told as 99999 at most. */
    private static void caps() {
        BeggingLetter x = new BeggingLetter();
        x.parish(0, 0);
        x.parish(1, 0);
        x.letter(0, 0, 9999);
        x.road(0, 1, 1);
        Due.law(x, "t999(1=1)");
        x.months(1);
        Due.is("told", x.toldAt(0, 1), 10998);
        for (int i = 2; i <= 90; i++) {
            Due.report(x, i % 2 == 0 ? "Aa!" : "Ab!");
            x.months(1);
        }
        Due.is("still within", x.toldAt(0, 0), 9999 + 90 * 999);
        Due.report(x, "Ab!");
        x.months(1);
        Due.is("at most", x.toldAt(0, 1), 99999);
    }
}
