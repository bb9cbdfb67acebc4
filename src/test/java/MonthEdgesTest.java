/** Promises 9, 10, 27, 28 at their bounds: each sentence of what a MONTH does, what is tried, what is lent. */
final class MonthEdgesTest {
    private MonthEdgesTest() {
    }

    public static void main(String[] args) {
        inForceAlone();
        whereItIsNotKnown();
        fewestMiles();
        likeOnesFromTheLowest();
        whenTheMonthBegan();
        byWhichItHears();
        toldAtMost();
        lowestUnread();
        heldBackIsNotPassedOver();
        noDraw();
        drawsByNumbers();
        drawnNumbers();
        readInTheMonthItIsHeard();
        readOnce();
        twoThirds();
        fundIsFull();
        farmedIsFull();
        rebuilt();
        inForceTillTheMonthEnds();
        tired();
        lastMonth();
        lastMonthTried();
        tried();
        triedAtFull();
        lent();
        lentBehindTheLastMonth();
        Due.end();
    }

    private static BeggingLetter by(BeggingLetter x, String law) {
        Due.holds(law + " is a law", Due.law(x, law) > 0);
        return x;
    }

    private static int next(int x) {
        return (int) ((25173L * x + 13849) % 65536);
    }

    /** "(1) each LETTER in force": others are heard of no more. */
    private static void inForceAlone() {
        BeggingLetter x = Given.row(3);
        x.letter(5, 0, 100);
        Due.report(x, "Fa+150");
        x.months(1);
        Due.is("heard of in its last month", x.letterIs(5, 4), 3);
        Due.is("in force no more", x.letterIs(5, 3), 0);
        x.months(5);
        Due.is("heard of no more", x.letterIs(5, 4), 3);
        Due.is("the other one is", x.letterIs(0, 4), 7);
        x.letter(5, 0, 100);
        x.months(2);
        Due.is("told anew it is again", x.letterIs(5, 4), 7);
    }

    /** "Where it is not KNOWN": where it is it stays as it is told. */
    private static void whereItIsNotKnown() {
        BeggingLetter x = by(Given.row(2), "t50(1=1)");
        Due.report(x, "Ab:0");
        x.months(5);
        Due.is("known as 0 is known", x.toldAt(0, 1), 0);
        Due.report(x, "Ab!");
        x.months(1);
        Due.is("not known it is heard again", x.toldAt(0, 1), 150);
        Due.is("home is as it was", x.toldAt(0, 0), 100);
    }

    /** "By the ROAD of the fewest MILES." */
    private static void fewestMiles() {
        for (int miles = 1; miles <= 3; miles++) {
            BeggingLetter x = Given.parishes(3);
            x.letter(0, 0, 100);
            Due.report(x, "Ab:200");
            x.road(0, 2, 2);
            x.road(1, 2, miles);
            x.months(1);
            Due.is("heard by " + miles + " or by 2", x.toldAt(0, 2), miles < 2 ? 200 : 100);
        }
        BeggingLetter x = Given.parishes(3);
        x.letter(0, 0, 100);
        Due.report(x, "Ab:200");
        x.road(0, 2, 99);
        x.months(1);
        Due.is("99 are as good, if there is no other", x.toldAt(0, 2), 100);
    }

    /** "Of like ones from the lowest." */
    private static void likeOnesFromTheLowest() {
        for (int at = 0; at < 12; at++) {
            BeggingLetter x = Given.parishes(12);
            x.letter(0, at, 100);
            Due.report(x, "A" + (char) ('a' + at) + "!");
            int lowest = at == 0 ? 1 : 0;
            for (int p = 11; p >= 0; p--) {
                if (p != at) {
                    x.road(at, p, 7);
                    Due.report(x, "A" + (char) ('a' + p) + ":" + (p + 1));
                }
            }
            x.months(1);
            Due.is("heard in " + at, x.toldAt(0, at), lowest + 1);
        }
    }

    /** "From where it was KNOWN when the MONTH began": a PARISH that hears tells it on in the next one. */
    private static void whenTheMonthBegan() {
        BeggingLetter x = Given.row(12);
        for (int month = 1; month <= 11; month++) {
            x.months(1);
            Due.is("known behind month " + month, x.letterIs(0, 4), (2 << month) - 1);
        }
        BeggingLetter y = by(Given.parishes(3), "t1(1=1)");
        y.road(0, 1, 5);
        y.road(1, 2, 1);
        y.road(0, 2, 9);
        y.letter(0, 0, 100);
        y.months(1);
        Due.is("by the longer road, it being known there", y.toldAt(0, 2), 101);
        BeggingLetter z = by(Given.parishes(3), "t1(1=1)");
        z.road(2, 1, 1);
        z.road(1, 0, 1);
        z.letter(0, 2, 100);
        z.months(1);
        Due.is("downwards, too", z.letterIs(0, 4), 6);
    }

    /** "Of those by which it hears (x)": the fewest MILES of these, the lowest of these. */
    private static void byWhichItHears() {
        String[] laws = {"x(1=2)", "x(d=1)", "x(d=1);x(l=300)", "x(d<3);x(l=400)", "x(d<3);x(d=3)", "x(1=1)"};
        int[] due = {200, 300, 400, 500, -2, -2};
        for (int i = 0; i < laws.length; i++) {
            BeggingLetter x = Given.parishes(6);
            x.letter(0, 0, 100);
            Due.report(x, "Ab:200;Ac:300;Ad:400;Ae:500");
            x.road(5, 1, 1);
            x.road(5, 2, 2);
            x.road(5, 3, 3);
            x.road(5, 4, 3);
            by(x, laws[i]).months(1);
            Due.is("heard by " + laws[i], x.toldAt(0, 5), due[i]);
        }
    }

    /** "The LOSS told there is more by t (99999 at most)": at it, just below it, beyond it. */
    private static void toldAtMost() {
        BeggingLetter x = by(Given.row(2), "t999(1=1)");
        x.letter(0, 0, 9999);
        for (int i = 1; i <= 90; i++) {
            x.months(1);
            Due.report(x, i % 2 == 1 ? "Aa!" : "Ab!");
        }
        Due.is("told in 0", x.toldAt(0, 0), 9999 + 90 * 999);
        by(x, "t89(1=1)").months(1);
        Due.is("just below", x.toldAt(0, 1), 99998);
        Due.report(x, "Aa!");
        x.keep();
        int[] more = {0, 1, 2, 999};
        int[] due = {99998, 99999, 99999, 99999};
        for (int i = 0; i < more.length; i++) {
            x.undo();
            by(x, "t" + more[i] + "(1=1)").months(1);
            Due.is("more by " + more[i], x.toldAt(0, 0), due[i]);
            Due.report(x, "Ab!");
            x.months(1);
            Due.is("and once more", x.toldAt(0, 1), Math.min(99999, due[i] + more[i]));
        }
        Due.is("the most by which it is larger", x.tales(0, 1), 90000);
    }

    /** "(2) ... of the LETTERS in force that are KNOWN and not READ there the lowest". */
    private static void lowestUnread() {
        BeggingLetter x = Given.parishes(2);
        for (int k = 0; k < 6; k++) {
            x.letter(k, 0, 5000);
        }
        Due.report(x, "Aa!;Ba+0;Ca+9999");
        x.months(1);
        Due.is("2 is in force till the month ends", x.parishIs(0, 3), 2 + 4 + 8);
        for (int k = 4; k < 6; k++) {
            x.months(1);
            Due.is("then " + k, x.parishIs(0, 3) >> k, 1);
        }
        Due.is("then none", x.months(1), 0);
        Due.is("0 is not known", x.letterIs(0, 5), 0);
        BeggingLetter y = Given.parishes(1);
        y.letter(0, 0, 1);
        y.letter(1, 0, 5000);
        Due.report(y, "Aa+9");
        y.months(1);
        Due.report(y, "Aa!;Aa:5;Ba!;Ba:5");
        y.months(1);
        Due.is("not in force, it is not read", y.letterIs(0, 5), 0);
        Due.is("the next one is", y.letterIs(1, 5), 1);
    }

    /** The lowest being held back, no other one is read there in this MONTH, and but one DRAW is made. */
    private static void heldBackIsNotPassedOver() {
        BeggingLetter x = by(Given.row(1), "h10(k=0);g9(1=1)");
        x.letter(1, 0, 100);
        Due.is("nothing is read", x.months(3), 0);
        Due.is("three draws", x.count(8), next(next(next(1))));
        Due.is("not the other one", x.letterIs(1, 5), 0);
        Due.is("tried: held back", x.tried(60, 1), 60);
        Due.report(x, "Aa!");
        Due.is("then the other one is", x.months(1), 1);
        Due.is("it is read", x.letterIs(1, 5), 1);
    }

    /** "(none: nothing, no DRAW)". */
    private static void noDraw() {
        BeggingLetter x = Given.parishes(12);
        x.months(60);
        Due.is("no letter, no draw", x.count(8), 1);
        x.letter(0, 11, 5000);
        x.months(1);
        Due.is("one draw for the one that knows it", x.count(8), next(1));
        x.months(60);
        Due.is("none when it is read", x.count(8), next(1));
        Due.report(x, "Al!;Aa+0;Aa:5");
        x.months(1);
        Due.is("none where it is read by a report", x.count(8), next(1));
        Due.is("nothing is read", x.tried(60, 0), 0);
    }

    /** "Each told PARISH, by numbers": the first DRAW is the lowest one's. */
    private static void drawsByNumbers() {
        int twoSides = 0;
        for (int seed = 0; seed < 400; seed++) {
            BeggingLetter x = by(Given.parishes(12), "h5(1=1)");
            x.letter(0, 3, 5000);
            Due.report(x, "Ak:5;Ah:5");
            x.seed(seed);
            x.months(1);
            int drawn = seed;
            int read = 0;
            for (int p : new int[] {3, 7, 10}) {
                drawn = next(drawn);
                read |= drawn % 10 < 5 ? 0 : 1 << p;
            }
            twoSides |= read > 0 && read < (1 << 3 | 1 << 7 | 1 << 10) ? 1 : 2;
            Due.is("read by seed " + seed, x.letterIs(0, 5), read);
            Due.is("X by seed " + seed, x.count(8), drawn);
        }
        Due.is("some and all", twoSides, 3);
    }

    /** "X = (25173 X + 13849) modulo 65536 (X is THE SEED at first, 1)". */
    private static void drawnNumbers() {
        Due.is("at first", new BeggingLetter().count(8), 1);
        int[] seeds = {0, 1, 2, 32767, 32768, 65534, 65535};
        int[] drawn = {13849, 39022, 64195, 21444, 46617, 29039, 54212};
        for (int i = 0; i < seeds.length; i++) {
            BeggingLetter x = Given.row(1);
            x.seed(seeds[i]);
            x.months(1);
            Due.is("drawn behind " + seeds[i], x.count(8), drawn[i]);
            Due.is("as reckoned", drawn[i], next(seeds[i]));
        }
    }

    /** KNOWN by (1) of this MONTH, a LETTER is READ by its (2). */
    private static void readInTheMonthItIsHeard() {
        BeggingLetter x = Given.row(3);
        Due.is("home and the next one", x.months(1), 2);
        Due.is("read", x.letterIs(0, 5), 3);
        Due.is("the last one", x.months(1), 1);
        Due.is("by l as it is told there", by(Given.row(2), "t20(1=1);gl(p=1)").tried(1, 10), 80);
    }

    /** "A LETTER is READ in a PARISH once at most." */
    private static void readOnce() {
        BeggingLetter x = by(Given.row(1), "g9(1=1)");
        Due.is("tried 60 times", x.tried(60, 0), 1);
        Due.is("60 times", x.months(60), 1);
        Due.is("given once", x.letterIs(0, 2), 6);
        Due.report(x, "Aa!;Aa:5");
        Due.is("read anew when a report forgot it", x.months(60), 1);
        Due.is("given twice", x.letterIs(0, 2), 12);
    }

    /** "g is given: two thirds, rounded up, to the FUND, the rest is FARMED." */
    private static void twoThirds() {
        int[] pence = {0, 1, 2, 3, 4, 5, 6, 997, 998, 999};
        int[] funds = {0, 1, 2, 2, 3, 4, 4, 665, 666, 666};
        for (int i = 0; i < pence.length; i++) {
            BeggingLetter x = by(Given.row(1), "g" + pence[i] + "(1=1)");
            Due.is("farmed when tried", x.tried(1, 2), pence[i] - funds[i]);
            Due.is("fund when tried", x.tried(1, 10), funds[i]);
            x.months(1);
            Due.is("to the fund of " + pence[i], x.letterIs(0, 2), funds[i]);
            Due.is("farmed of " + pence[i], x.count(2), pence[i] - funds[i]);
        }
    }

    /** A LETTER in force whose FUND is 999998, by REPORTS alone. */
    private static BeggingLetter nearlyFull() {
        BeggingLetter x = Given.row(1);
        for (int i = 0; i < 10; i++) {
            Due.report(x, Due.times("Aa+9999;", 14) + "Aa+9999");
        }
        Due.report(x, "Aa+147;Aa!;Aa:5");
        Due.is("just below", x.letterIs(0, 2), 999998);
        return x;
    }

    /** FUND is 999999 at most, by a MONTH, too. */
    private static void fundIsFull() {
        int[] pence = {0, 1, 2, 999};
        int[] due = {999998, 999999, 999999, 999999};
        BeggingLetter x = nearlyFull();
        x.keep();
        for (int i = 0; i < pence.length; i++) {
            x.undo();
            by(x, "g" + pence[i] + "(1=1)");
            Due.is("tried by " + pence[i], x.tried(1, 10), due[i]);
            Due.is("read", x.months(1), 1);
            Due.is("by " + pence[i], x.letterIs(0, 2), due[i]);
        }
    }

    /** FARMED is 999999 at most, by a MONTH, too. */
    private static void farmedIsFull() {
        BeggingLetter x = Given.row(1);
        for (int i = 0; i < 20; i++) {
            Due.report(x, Due.times("Aa+9999;", 14) + "Aa+9999");
        }
        Due.report(x, "Aa+294;Aa!;Aa:5");
        Due.is("just below", x.count(2), 999998);
        x.keep();
        int[] pence = {2, 3, 6, 999};
        int[] due = {999998, 999999, 999999, 999999};
        for (int i = 0; i < pence.length; i++) {
            x.undo();
            by(x, "g" + pence[i] + "(1=1)");
            Due.is("tried by " + pence[i], x.tried(1, 2), due[i] - 999998);
            x.months(1);
            Due.is("by " + pence[i], x.count(2), due[i]);
        }
    }

    /** "(3) Each LETTER in force whose FUND is its LOSS or more is in force no more: REBUILT one more." */
    private static void rebuilt() {
        int[] losses = {1, 5, 6, 7, 9999};
        for (int loss : losses) {
            BeggingLetter x = Given.parishes(1);
            x.letter(3, 0, loss);
            by(x, "g9(1=1)");
            Due.is("tried, loss " + loss, x.tried(1, 3), loss <= 6 ? 1 : 0);
            x.months(1);
            Due.is("rebuilt, loss " + loss, x.count(1), loss <= 6 ? 1 : 0);
            Due.is("in force, loss " + loss, x.count(5), loss <= 6 ? 0 : 8);
            Due.is("told still", x.count(4), 8);
            x.months(1);
            Due.is("no more than once", x.count(1), loss <= 6 ? 1 : 0);
        }
        BeggingLetter y = Given.all();
        Due.report(y, "Aa+7499;Ba+7500;Ca+7498;Da+9999;Ea+7497;Fa+0");
        y.months(1);
        Due.is("in force are those of 4999, 4998 and 0, not those of 5000 and 6666", y.count(5), 4 + 16 + 32);
        Due.is("three rebuilt", y.count(1), 3);
    }

    /** A LETTER whose FUND is full by a PARISH is READ in the higher ones of the same MONTH all the same. */
    private static void inForceTillTheMonthEnds() {
        BeggingLetter x = by(Given.parishes(3), "g9(1=1)");
        x.letter(0, 0, 6);
        Due.report(x, "Ab:5;Ac:5");
        Due.is("three read it", x.months(1), 3);
        Due.is("their fund", x.letterIs(0, 2), 18);
        Due.is("rebuilt once", x.count(1), 1);
    }

    /** "TIRED is how many in all three": of the last three MONTHS, the oldest forgotten. */
    private static void tired() {
        BeggingLetter x = Given.parishes(2);
        for (int k = 0; k < 5; k++) {
            x.letter(k, 0, 5000);
        }
        int[] tired = {0, 1, 2, 3, 3, 3, 2, 1, 0, 0};
        for (int month = 0; month < tired.length; month++) {
            Due.is("tired in month " + month, x.parishIs(0, 1), tired[month]);
            Due.is("r in month " + month, by(x, "gr(1=1)").readsMost(0, 1, 100), tired[month]);
            Due.is("the other one is not", x.parishIs(1, 1), 0);
            by(x, "g0(1=1)").months(1);
        }
        BeggingLetter y = Given.parishes(1);
        y.letter(0, 0, 5000);
        y.months(1);
        for (int left = 1; left >= -1; left--) {
            y.months(1);
            Due.is("one of three, then of two, then none", y.parishIs(0, 1), left >= 0 ? 1 : 0);
        }
        BeggingLetter z = by(Given.parishes(1), "g10*r(1=1);h10(r=2)");
        for (int k = 0; k < 4; k++) {
            z.letter(k, 0, 5000);
        }
        Due.is("read, read, held back, held back, read", z.months(5), 3);
        Due.is("r as it is when the month begins: 0, 1, then 1", z.letterIs(2, 2) + z.letterIs(1, 2), 14);
    }

    /** "THE MONTH is one more (9999 at most: then none goes by)." */
    private static BeggingLetter inMonth(int month) {
        BeggingLetter x = new BeggingLetter();
        for (int left = month; left > 0; left -= 60) {
            x.months(Math.min(60, left));
        }
        Due.is("the month", x.count(0), month);
        x.parish(0, 5);
        x.parish(1, 5);
        x.road(0, 1, 1);
        for (int k = 0; k < 4; k++) {
            x.letter(k, 0, 5000);
        }
        return by(x, "g9(1=1);t1(1=1)");
    }

    private static void lastMonth() {
        for (int month = 9996; month <= 9999; month++) {
            for (int n : new int[] {1, 2, 3, 60}) {
                BeggingLetter x = inMonth(month);
                int can = Math.min(n, 9999 - month);
                int reads = Math.min(4, can) * 2;
                Due.is(n + " months from " + month, x.months(n), reads);
                Due.is("the month then", x.count(0), month + can);
                Due.is("tired then", x.parishIs(0, 1), Math.min(3, can));
                Due.is("heard of", x.letterIs(0, 4), can > 0 ? 3 : 1);
                Due.is("kept", x.keep(), month + can);
            }
        }
        BeggingLetter x = inMonth(9999);
        Due.report(x, "Aa+9999");
        Due.is("none goes by", x.months(60), 0);
        Due.is("no draw", x.count(8), 1);
        Due.is("not rebuilt", x.count(1), 0);
        Due.is("in force", x.count(5), 15);
    }

    /** TRIED: "as many as can". */
    private static void lastMonthTried() {
        for (int month = 9996; month <= 9999; month++) {
            BeggingLetter x = inMonth(month);
            for (int n : new int[] {1, 2, 3, 60}) {
                int can = Math.min(n, 9999 - month);
                Due.is("read in " + n + " from " + month, x.tried(n, 0), can * 2);
                Due.is("farmed", x.tried(n, 2), can * 6);
                Due.is("fund", x.tried(n, 10), can > 0 ? 12 : 0);
                Due.is("lent", x.lent(0, n, 0), can > 0 ? 8 : 0);
                Due.is("nothing is changed", x.count(0), month);
            }
        }
    }

    /** "TRIED are n MONTHS by the DRAWS that will come (nothing is changed)": 1, 2, 59 and 60 of them. */
    private static void tried() {
        for (int n : new int[] {1, 2, 59, 60}) {
            BeggingLetter x = by(Given.row(12), "g40+w-r(1=1);t3*d(1=1);h6(1=1)");
            x.letter(1, 11, 60);
            x.letter(5, 4, 900);
            Due.report(x, "Aa+7;Fa+77");
            int[] tried = {x.tried(n, 0), x.tried(n, 1), x.tried(n, 2), x.tried(n, 3), x.tried(n, 10), x.tried(n, 15)};
            Due.is("X as before", x.count(8), 1);
            Due.is("month as before", x.count(0), 0);
            Due.is("known as before", x.letterIs(0, 4), 1);
            Due.is("tired as before", x.parishIs(0, 1), 0);
            int farmed = x.count(2);
            Due.is("read in " + n, x.months(n), tried[0]);
            Due.is("farmed in " + n, x.count(2) - farmed, tried[2]);
            Due.is("rebuilt in " + n, x.count(1), tried[3]);
            Due.is("fund behind " + n, x.letterIs(0, 2), tried[4]);
            Due.is("fund behind " + n, x.letterIs(5, 2), tried[5]);
            int drawn = 1;
            for (int i = 0; i < tried[0] + tried[1]; i++) {
                drawn = next(drawn);
            }
            Due.is("a draw for each that was read or held back", x.count(8), drawn);
        }
    }

    /** What is FARMED and REBUILT "in them" is no more than what they add. */
    private static void triedAtFull() {
        BeggingLetter x = by(Given.row(1), "g9(1=1)");
        Due.report(x, "Aa+300");
        Due.is("farmed before does not count", x.tried(1, 2), 0);
        Due.is("the fund before does", x.tried(1, 10), 200);
        Due.is("rebuilt in it", x.tried(1, 3), 1);
        x.months(1);
        Due.is("rebuilt before does not count", x.tried(1, 3), 0);
        Due.is("a fund of one not in force", x.tried(60, 10), 200);
    }

    /** LENT: two thirds of the FUND, rounded down, less hundredths a MONTH, rounded up in all; 0 at least. */
    private static void lent() {
        int[] given = {0, 1, 2, 3, 4, 6, 150, 153, 300, 9999};
        for (int pence : given) {
            BeggingLetter x = Given.row(1);
            x.letter(0, 0, 9999);
            Due.report(x, "Aa+" + pence);
            int fund = (2 * pence + 2) / 3;
            int pledge = 2 * fund / 3;
            for (int n : new int[] {1, 2, 9, 10, 11, 59, 60}) {
                for (int hundredths : new int[] {0, 1, 2, 9, 10}) {
                    int less = pledge * hundredths * n;
                    int rounded = less % 100 == 0 ? less / 100 : less / 100 + 1;
                    Due.is("lent on " + fund + ", " + n + " months, " + hundredths, x.lent(0, n, hundredths),
                        Math.max(0, pledge - rounded));
                }
            }
        }
        BeggingLetter y = Given.row(1);
        Due.report(y, "Aa+229");
        Due.is("fund 153: two thirds are 102", y.lent(0, 1, 0), 102);
        Due.is("102 hundredths are two", y.lent(0, 1, 1), 100);
        BeggingLetter z = Given.row(1);
        Due.report(z, "Aa+228");
        Due.is("fund 152: two thirds are 101", z.lent(0, 1, 0), 101);
        Due.is("101 hundredths are two, too", z.lent(0, 1, 1), 99);
        BeggingLetter w = Given.row(1);
        Due.report(w, "Aa+225");
        Due.is("fund 150: 100, of which 100 hundredths are one", w.lent(0, 1, 1), 99);
        Due.is("all of it in ten months of ten", w.lent(0, 10, 10), 0);
        Due.is("not less than nothing", w.lent(0, 11, 10), 0);
        Due.is("just not all of it", w.lent(0, 11, 9), 1);
        BeggingLetter full = nearlyFull();
        Due.is("of a full fund", full.lent(0, 1, 0), 666665);
        Due.is("of a full fund for long", full.lent(0, 60, 1), 666665 - 399999);
        Due.is("of a full fund at the most", full.lent(0, 60, 10), 0);
    }

    /** MONTHS that can't go by are counted all the same: n as it was asked for. */
    private static void lentBehindTheLastMonth() {
        BeggingLetter x = inMonth(9998);
        Due.report(x, "Aa+300;Aa!;Aa:1");
        // 200 now, 212 behind the one month that can go by: two thirds are 141
        Due.is("for one", x.lent(0, 1, 1), 141 - 2);
        Due.is("for ten", x.lent(0, 10, 1), 141 - 15);
    }
}
