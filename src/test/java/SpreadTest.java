/** Promises 14, 19: how a LETTER spreads, and which tales can't be true. */
final class SpreadTest {
    private SpreadTest() {
    }

    public static void main(String[] args) {
        arguments();
        inRow();
        byMonth();
        hundred();
        nowhere();
        talesArguments();
        tales();
        wayOfFour();
        Due.end();
    }

    private static BeggingLetter row(int n) {
        BeggingLetter x = new BeggingLetter();
        for (int p = 0; p < n; p++) {
            x.parish(p, 10 + p);
        }
        for (int p = 0; p + 1 < n; p++) {
            x.road(p, p + 1, 2);
        }
        x.letter(0, 0, 100);
        return x;
    }

    private static void arguments() {
        BeggingLetter x = row(3);
        for (int what : new int[] {-1, 3, 11, 12, 99, 103, Integer.MIN_VALUE, Integer.MAX_VALUE}) {
            Due.is("spreads what " + what, x.spreads(0, what), -1);
        }
        for (int k : new int[] {-1, 1, 5, 6, Integer.MIN_VALUE, Integer.MAX_VALUE}) {
            Due.is("spreads " + k, x.spreads(k, 100), -1);
        }
        Due.report(x, "Aa+999");
        x.months(1);
        Due.is("not in force", x.spreads(0, 100), -3);
        Due.is("not in force", x.spreads(0, 101), -3);
        Due.is("not in force", x.spreads(0, 102), -3);
        Due.is("not in force", x.spreads(0, 0), -3);
        Due.is("no such ones first", x.spreads(0, 103), -1);
    }

    private static void inRow() {
        BeggingLetter x = row(12);
        for (int p = 0; p < 12; p++) {
            Due.is("in " + p, x.spreads(0, p), p);
        }
        Due.is("in how many", x.spreads(0, 100), 12);
        Due.is("in the last", x.spreads(0, 101), 11);
        Due.is("in which", x.spreads(0, 102), 11);
        x.road(0, 11, 99);
        Due.is("in the last", x.spreads(0, 101), 6);
        Due.is("in which", x.spreads(0, 102), 6);
        x.road(5, 6, 0);
        x.road(11, 10, 0);
        Due.is("in how many", x.spreads(0, 100), 7);
        Due.is("in the last", x.spreads(0, 101), 5);
        Due.is("never", x.spreads(0, 6), -2);
        Due.is("nothing is changed", x.letterIs(0, 4), 1);
        Due.is("nothing is changed", x.count(0), 0);
        Due.law(x, "x(p>2&p<11)");
        Due.is("by x", x.spreads(0, 100), 4);
        Due.is("by x", x.spreads(0, 102), 2);
        Due.law(x, "x(r>0)");
        Due.is("nobody is tired", x.spreads(0, 100), 7);
    }

    /** m goes on from THE MONTH; l is as it is told by then. */
    private static void byMonth() {
        BeggingLetter x = row(4);
        x.months(5);
        x.letter(0, 0, 100);
        for (int p = 1; p < 4; p++) {
            Due.report(x, "A" + (char) ('a' + p) + "!");
        }
        Due.law(x, "x(!m=3)");
        Due.is("ten months till m is 3", x.spreads(0, 1), 11);
        Due.is("a year more", x.spreads(0, 2), 23);
        Due.is("a year more", x.spreads(0, 3), 35);
        Due.law(x, "t10(1=1);x(l>110)");
        Due.is("told larger by the way", x.spreads(0, 102), 2);
        x.months(1);
        Due.is("known already", x.spreads(0, 1), 0);
        Due.is("the next one", x.spreads(0, 2), 1);
    }

    private static void hundred() {
        BeggingLetter x = row(12);
        Due.law(x, "x(!m=11)");
        Due.is("behind 96", x.spreads(0, 8), 96);
        Due.is("108 would be too many", x.spreads(0, 9), -2);
        Due.is("in how many", x.spreads(0, 100), 9);
        Due.is("the last", x.spreads(0, 101), 96);
        Due.law(x, "x(!m=3)");
        Due.is("behind 100", x.spreads(0, 9), 100);
        Due.is("in how many", x.spreads(0, 100), 10);
        Due.law(x, "x(!m=4)");
        Due.is("101 would be too many", x.spreads(0, 9), -2);
    }

    private static void nowhere() {
        BeggingLetter x = row(3);
        Due.report(x, "Aa!");
        Due.is("in how many", x.spreads(0, 100), 0);
        Due.is("the last", x.spreads(0, 101), -2);
        Due.is("where", x.spreads(0, 102), -2);
        Due.is("home", x.spreads(0, 0), -2);
        Due.report(x, "Ac:5");
        Due.is("from there", x.spreads(0, 100), 3);
        Due.is("home last", x.spreads(0, 102), 0);
        Due.is("home", x.spreads(0, 0), 2);
        BeggingLetter y = new BeggingLetter();
        y.parish(4, 4);
        y.letter(2, 4, 4);
        Due.is("home alone", y.spreads(2, 100), 1);
        Due.is("at once", y.spreads(2, 101), 0);
        Due.is("there", y.spreads(2, 102), 4);
    }

    private static void talesArguments() {
        BeggingLetter x = row(3);
        for (int k : new int[] {-1, 1, 6}) {
            Due.is("tales " + k, x.tales(k, 0), -1);
        }
        for (int what : new int[] {-1, 3, 100}) {
            Due.is("tales what " + what, x.tales(0, what), -1);
        }
        Due.is("all true", x.tales(0, 0), 0);
        Due.is("none larger", x.tales(0, 1), 0);
        Due.is("nowhere", x.tales(0, 2), -2);
        Due.report(x, "Aa!");
        Due.is("not known", x.tales(0, 0), 0);
        Due.is("none larger", x.tales(0, 1), 0);
        Due.is("nowhere", x.tales(0, 2), -2);
    }

    private static void told(BeggingLetter x, int p, int told, boolean isTrue) {
        x.keep();
        Due.report(x, "A" + (char) ('a' + p) + ":" + told);
        Due.is("told in " + p + " as " + told, x.tales(0, 0), isTrue ? 0 : 1 << p);
        x.undo();
    }

    private static void tales() {
        BeggingLetter x = row(4);
        Due.law(x, "t10+d+m(1=1);x(1=1)");
        told(x, 0, 100, true);
        told(x, 0, 99, false);
        told(x, 0, 101, false);
        told(x, 1, 99, false);
        told(x, 1, 100, true);
        told(x, 1, 112, true);
        told(x, 1, 113, false);
        told(x, 3, 136, true);
        told(x, 3, 137, false);
        x.road(0, 2, 50);
        told(x, 1, 172, true);
        told(x, 1, 173, false);
        told(x, 3, 172, true);
        told(x, 3, 173, false);
        x.months(1);
        told(x, 1, 174, true);
        told(x, 1, 175, false);
        x.parish(11, 0);
        told(x, 11, 100, false);
        told(x, 11, 101, false);
        Due.law(x, "t[200-l]/2(l<150);t1(1=1)");
        told(x, 1, 150, true);
        told(x, 2, 151, true);
        told(x, 2, 152, false);
        told(x, 1, 151, true);
        told(x, 1, 152, false);
        Due.law(x, "tp*w+r+k(1=1)");
        told(x, 3, 100 + 11 + 24 + 39, true);
        told(x, 3, 100 + 11 + 24 + 40, false);
        Due.report(x, "Ab:300;Ac:300;Aa:99");
        Due.is("bits", x.tales(0, 0), 7);
        Due.is("the most", x.tales(0, 1), 200);
        Due.is("of like ones the lowest", x.tales(0, 2), 1);
        Due.report(x, "Aa:302");
        Due.is("the most at home", x.tales(0, 1), 202);
        Due.is("at home", x.tales(0, 2), 0);
        Due.report(x, "Aa:1");
        Due.report(x, "Ac:301");
        Due.is("the most", x.tales(0, 1), 201);
        Due.is("where", x.tales(0, 2), 2);
    }

    private static void wayOfFour() {
        BeggingLetter x = row(7);
        told(x, 4, 100, true);
        told(x, 5, 100, false);
        x.road(0, 6, 3);
        told(x, 5, 100, true);
        told(x, 5, 101, false);
        Due.law(x, "t100(d=3);t1(1=1)");
        told(x, 3, 203, true);
        told(x, 3, 204, false);
        told(x, 2, 102, true);
        told(x, 2, 103, false);
        x.letter(0, 6, 100);
        Due.law(x, "t1(1=1)");
        told(x, 0, 101, true);
        told(x, 2, 103, true);
        told(x, 2, 104, true);
        told(x, 2, 105, false);
        told(x, 3, 104, true);
        told(x, 3, 105, false);
        BeggingLetter y = new BeggingLetter();
        y.parish(0, 0);
        y.parish(1, 0);
        y.parish(2, 0);
        y.letter(0, 0, 50);
        y.road(0, 1, 1);
        y.road(1, 2, 1);
        Due.law(y, "t10(1=1)");
        told(y, 1, 60, true);
        told(y, 1, 61, false);
        told(y, 0, 51, false);
        y.letter(0, 2, 50);
        y.road(0, 1, 0);
        told(y, 0, 50, false);
        told(y, 1, 60, true);
    }
}
