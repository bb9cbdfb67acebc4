/** Promises 29, 30: what is KEPT and UNDONE. */
final class KeptTest {
    private KeptTest() {
    }

    public static void main(String[] args) {
        none();
        asItWas();
        staysAsItIs();
        newParish();
        again();
        Due.end();
    }

    private static void none() {
        BeggingLetter x = new BeggingLetter();
        Due.is("none was kept", x.undo(), false);
        x.months(3);
        Due.is("the month", x.keep(), 3);
        Due.is("undone", x.undo(), true);
    }

    private static BeggingLetter some() {
        BeggingLetter x = new BeggingLetter();
        for (int p = 0; p < 3; p++) {
            x.parish(p, 10 + p);
        }
        x.road(0, 1, 5);
        x.road(1, 2, 5);
        x.letter(0, 0, 2);
        x.letter(1, 1, 500);
        x.letter(4, 1, 600);
        Due.law(x, "g9(1=1);t7(1=1);h1(m=3)");
        x.months(2);
        return x;
    }

    /** All that can be seen of what is kept. */
    private static int[] seen(BeggingLetter x) {
        int[] seen = new int[200];
        int n = 0;
        for (int what : new int[] {0, 1, 2, 4, 5, 8}) {
            seen[n++] = x.count(what);
        }
        for (int k = 0; k < 6; k++) {
            for (int what = 0; what < 6; what++) {
                seen[n++] = x.letterIs(k, what);
            }
            for (int p = 0; p < 3; p++) {
                seen[n++] = x.toldAt(k, p);
            }
        }
        for (int p = 0; p < 3; p++) {
            for (int what = 0; what < 4; what++) {
                seen[n++] = x.parishIs(p, what);
            }
            seen[n++] = x.bestMonth(p, 1, 0);
        }
        seen[n++] = x.tried(20, 0);
        seen[n++] = x.tried(20, 14);
        return seen;
    }

    private static void asItWas() {
        BeggingLetter x = some();
        Due.law(x, "g30-9*r(1=1);t7(1=1);h1(m=3)");
        int[] before = seen(x);
        Due.is("keep", x.keep(), 2);
        x.months(7);
        x.parish(1, 77);
        x.letter(2, 2, 50);
        x.letter(1, 0, 70);
        x.seed(999);
        Due.text(x, 1, "abc");
        Due.report(x, "Ab+500;Ec!;Cb:4");
        x.letter(4, 2, 9);
        x.months(3);
        for (int times = 0; times < 2; times++) {
            Due.is("undo", x.undo(), true);
            int[] after = seen(x);
            for (int i = 0; i < before.length; i++) {
                Due.is("seen at place " + i, after[i], before[i]);
            }
            x.months(1 + times);
            x.parish(0, 3);
        }
    }

    /** ROADS, THE LAW, TEXTS, the tape are not undone. */
    private static void staysAsItIs() {
        BeggingLetter x = some();
        x.keep();
        x.road(0, 2, 1);
        x.road(1, 2, 0);
        Due.law(x, "g1(1=1)");
        Due.text(x, 0, "abc");
        Due.text(x, 5, "abcd");
        x.feed(1, 2, 3, 4, 5);
        x.undo();
        Due.is("road", x.miles(0, 2), 1);
        Due.is("no road", x.miles(1, 2), 6);
        Due.is("law", x.count(6), 1);
        Due.is("texts", x.count(9), 33);
        Due.is("far", x.far(0, 5), 1);
        Due.is("tape", x.count(7), 20);
    }

    private static void newParish() {
        BeggingLetter x = some();
        x.keep();
        x.parish(8, 55);
        x.road(0, 8, 4);
        Due.report(x, "Bi:5");
        x.letter(3, 8, 9);
        Due.law(x, "g1(1=1)");
        x.months(1);
        Due.is("tired", x.parishIs(8, 1), 1);
        x.undo();
        Due.is("told", x.count(3), 7 + 256);
        Due.is("with wealth 0", x.parishIs(8, 0), 0);
        Due.is("nothing known", x.parishIs(8, 2), 0);
        Due.is("nothing read", x.parishIs(8, 3), 0);
        Due.is("not tired", x.parishIs(8, 1), 0);
        Due.is("its road stays", x.miles(8, 1), 9);
        Due.is("its letter is gone", x.letterIs(3, 0), -1);
        Due.feed(x, 10, 11, 12, 0, 0, 0, 0, 0, 0);
        Due.is("check", x.check(12), -1);
    }

    private static void again() {
        BeggingLetter x = some();
        x.keep();
        x.months(2);
        Due.is("kept later", x.keep(), 4);
        x.months(2);
        x.undo();
        Due.is("the last that was kept", x.count(0), 4);
        x.undo();
        Due.is("not the one before", x.count(0), 4);
        BeggingLetter other = new BeggingLetter();
        Due.is("of one object alone", other.undo(), false);
    }
}
