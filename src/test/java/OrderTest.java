/** Promises 15 to 18: shortest ways, ROUNDS, in which order most is read, the best month. */
final class OrderTest {
    private OrderTest() {
    }

    public static void main(String[] args) {
        ways();
        rounds();
        longRounds();
        roundArguments();
        readsMost();
        readsMostArguments();
        bestMonth();
        Due.end();
    }

    private static BeggingLetter parishes(int n) {
        BeggingLetter x = new BeggingLetter();
        for (int p = 0; p < n; p++) {
            x.parish(p, 10);
        }
        return x;
    }

    private static void ways() {
        BeggingLetter x = parishes(11);
        x.road(0, 1, 99);
        x.road(0, 2, 1);
        x.road(2, 3, 1);
        x.road(3, 1, 1);
        Due.is("by others", x.miles(0, 1), 3);
        Due.is("and back", x.miles(1, 0), 3);
        Due.is("no way", x.miles(0, 4), -2);
        Due.is("the same", x.miles(4, 4), 0);
        x.road(2, 3, 0);
        Due.is("straight", x.miles(0, 1), 99);
        Due.is("around", x.miles(3, 2), 101);
        for (int p = 0; p < 10; p++) {
            x.road(p, p + 1, 99);
        }
        x.road(0, 2, 0);
        x.road(1, 3, 0);
        Due.is("the longest", x.miles(0, 10), 990);
        for (int no : new int[] {-1, 11, 12, Integer.MIN_VALUE, Integer.MAX_VALUE}) {
            Due.is("no such", x.miles(no, 0), -1);
            Due.is("no such", x.miles(0, no), -1);
            Due.is("no such", x.miles(no, no), -1);
        }
    }

    private static void rounds() {
        BeggingLetter x = parishes(6);
        x.road(0, 1, 10);
        x.road(1, 2, 1);
        x.road(2, 3, 1);
        x.road(3, 0, 10);
        x.road(4, 5, 1);
        Due.is("miles", x.round(0, 14, 100), 22);
        int[] row = {1, 2, 3};
        for (int place = 0; place < 3; place++) {
            Due.is("of like ones the least row", x.round(0, 14, place), row[place]);
        }
        x.road(0, 2, 1);
        // now 0-2-1 and 0-2-3 are short: 2, 1, 2, 3 or the like
        Due.is("miles", x.round(0, 14, 100), 6);
        Due.is("least row", x.round(0, 14, 0), 1);
        Due.is("least row", x.round(0, 14, 1), 2);
        Due.is("one alone", x.round(3, 1, 100), 4);
        Due.is("one alone", x.round(3, 1, 0), 0);
        Due.is("can't be", x.round(0, 16, 100), -2);
        Due.is("can't be", x.round(0, 18, 0), -2);
        Due.is("elsewhere", x.round(4, 32, 100), 2);
    }

    private static void longRounds() {
        BeggingLetter x = parishes(12);
        int[] circle = {3, 11, 5, 8, 1, 9, 6, 10};
        for (int i = 0; i < circle.length; i++) {
            x.road(circle[i], circle[(i + 1) % circle.length], 7);
        }
        int others = 0;
        for (int i = 1; i < circle.length; i++) {
            others |= 1 << circle[i];
        }
        Due.is("seven others", x.round(3, others, 100), 56);
        int[] row = {10, 6, 9, 1, 8, 5, 11};
        for (int place = 0; place < row.length; place++) {
            Due.is("place " + place, x.round(3, others, place), row[place]);
        }
        x.road(3, 10, 8);
        Due.is("a longer road", x.round(3, others, 100), 57);
        Due.is("the same row", x.round(3, others, 0), 10);
    }

    private static void roundArguments() {
        BeggingLetter x = parishes(9);
        for (int p = 0; p < 8; p++) {
            x.road(p, p + 1, 1);
        }
        Due.is("none", x.round(0, 0, 100), -1);
        Due.is("itself", x.round(0, 3, 100), -1);
        Due.is("untold", x.round(0, 1 << 9, 100), -1);
        Due.is("no such", x.round(0, 1 << 12, 100), -1);
        Due.is("all bits", x.round(0, -1, 100), -1);
        Due.is("the highest bit", x.round(0, Integer.MIN_VALUE, 100), -1);
        Due.is("eight", x.round(0, 0x1fe, 100), -1);
        Due.is("seven", x.round(0, 0xfe, 100), 14);
        Due.is("from untold", x.round(9, 1, 100), -1);
        Due.is("from no such", x.round(-1, 1, 100), -1);
        Due.is("from no such", x.round(12, 1, 100), -1);
        Due.is("place 7 of 7", x.round(0, 0xfe, 7), -1);
        Due.is("place -1", x.round(0, 0xfe, -1), -1);
        Due.is("place 6 of 7", x.round(0, 0xfe, 6), 7);
        Due.is("place 99", x.round(0, 2, 99), -1);
        Due.is("place 101", x.round(0, 2, 101), -1);
        x.road(0, 1, 0);
        Due.is("no such place where it can't be", x.round(0, 2, 1), -1);
    }

    private static void readsMost() {
        BeggingLetter x = parishes(2);
        for (int k = 0; k < 6; k++) {
            x.letter(k, 1, 100 * (k + 1));
        }
        Due.report(x, "Ba:50");
        Due.law(x, "gl/[r+1](1=1)");
        // the largest first: 500, 400/2, 300/3, 100/4, 50/4
        Due.is("most", x.readsMost(0, 31, 100), 500 + 200 + 100 + 25 + 12);
        int[] row = {4, 3, 2, 0, 1};
        for (int place = 0; place < row.length; place++) {
            Due.is("place " + place, x.readsMost(0, 31, place), row[place]);
        }
        Due.is("one alone", x.readsMost(0, 2, 100), 50);
        Due.is("one alone", x.readsMost(1, 2, 100), 200);
        Due.is("letter 5", x.readsMost(0, 33, 0), 5);
        x.months(1);
        Due.is("tired by now", x.readsMost(1, 2, 100), 100);
        Due.law(x, "g10*m+k(1=1)");
        Due.is("of like ones", x.readsMost(0, 62, 100), 10 + 20 + 30 + 40 + 50 + 15);
        for (int place = 0; place < 5; place++) {
            Due.is("the least row", x.readsMost(0, 62, place), place + 1);
        }
        Due.law(x, "g100(k=5&m=2);g100(k=3&m=4);h10(1=1)");
        Due.is("nothing is held back", x.readsMost(0, 62, 100), 200);
        int[] then = {1, 5, 2, 3, 4};
        for (int place = 0; place < 5; place++) {
            Due.is("place " + place, x.readsMost(0, 62, place), then[place]);
        }
        Due.law(x, "gr(1=1)");
        Due.is("tired as it would be: 1, 2, 3, 3, 3", x.readsMost(0, 62, 100), 12);
        Due.is("tired as it would be: 1, 2, 3, 3, 3", x.readsMost(1, 62, 100), 12);
        x.months(3);
        Due.is("months 1, 2, 3 remembered", x.readsMost(1, 62, 100), 15);
        Due.law(x, "gd(1=1)");
        Due.is("no miles", x.readsMost(1, 62, 100), 0);
        Due.law(x, "t0(1=1)");
        Due.is("no rule", x.readsMost(1, 62, 100), 0);
        Due.is("no rule", x.readsMost(1, 62, 4), 5);
    }

    private static void readsMostArguments() {
        BeggingLetter x = parishes(2);
        for (int k = 0; k < 5; k++) {
            x.letter(k, 1, 100);
        }
        Due.is("none", x.readsMost(0, 0, 100), -1);
        Due.is("untold", x.readsMost(0, 32, 100), -1);
        Due.is("no such", x.readsMost(0, 64, 100), -1);
        Due.is("all bits", x.readsMost(0, -1, 100), -1);
        Due.is("five", x.readsMost(0, 31, 100), 0);
        x.letter(5, 0, 1);
        Due.is("six", x.readsMost(0, 63, 100), -1);
        Due.is("untold parish", x.readsMost(2, 1, 100), -1);
        Due.is("no such parish", x.readsMost(-1, 1, 100), -1);
        Due.is("no such parish", x.readsMost(12, 1, 100), -1);
        Due.is("place 5", x.readsMost(0, 31, 5), -1);
        Due.is("place -1", x.readsMost(0, 31, -1), -1);
        Due.is("place 101", x.readsMost(0, 31, 101), -1);
        Due.report(x, "Ab+999");
        x.months(1);
        Due.is("not in force, and read", x.readsMost(1, 1, 100), 0);
    }

    private static void bestMonth() {
        BeggingLetter x = parishes(2);
        x.letter(0, 0, 300);
        x.letter(3, 0, 400);
        Due.is("none better", x.bestMonth(0, 0, 0), 0);
        Due.is("nothing", x.bestMonth(0, 0, 1), 0);
        Due.law(x, "g50*m(1=1)");
        Due.is("the last of the year", x.bestMonth(0, 0, 0), 11);
        Due.is("550", x.bestMonth(0, 0, 1), 550);
        x.months(7);
        Due.is("four from now", x.bestMonth(0, 0, 0), 4);
        Due.law(x, "gm%4(1=1)");
        Due.is("of like ones the first", x.bestMonth(0, 0, 0), 0);
        Due.is("three", x.bestMonth(0, 0, 1), 3);
        x.months(1);
        x.letter(1, 0, 10);
        Due.is("three more", x.bestMonth(0, 0, 0), 3);
        x.months(1);
        Due.law(x, "g5-r(1=1)");
        Due.is("tired till three are over", x.bestMonth(0, 0, 0), 3);
        Due.is("not tired", x.bestMonth(0, 0, 1), 5);
        Due.is("elsewhere", x.bestMonth(1, 0, 0), 0);
        x.months(1);
        Due.is("one month less", x.bestMonth(0, 0, 0), 2);
        Due.law(x, "g5-r(m=" + x.count(0) % 12 + ")");
        Due.is("none of a thirteenth month", x.bestMonth(0, 0, 0), 0);
        Due.is("tired now", x.bestMonth(0, 0, 1), 5 - x.parishIs(0, 1));
        Due.law(x, "gl(1=1)");
        Due.report(x, "Db:77");
        Due.is("as it is told there", x.bestMonth(1, 3, 1), 77);
        Due.is("as its loss", x.bestMonth(1, 0, 1), 300);
        for (int no : new int[] {-1, 2, 12}) {
            Due.is("no such parish", x.bestMonth(no, 0, 0), -1);
        }
        for (int no : new int[] {-1, 2, 6}) {
            Due.is("no such letter", x.bestMonth(0, no, 0), -1);
            Due.is("no such what", x.bestMonth(0, 0, no), -1);
        }
    }
}
