/** Promises 14 to 19 at their bounds: SPREADS, MILES, ROUNDS, READS MOST, BEST MONTH, TALES. */
final class ForesightEdgesTest {
    private ForesightEdgesTest() {
    }

    public static void main(String[] args) {
        hundredMonths();
        lastOfLikeOnes();
        inHowMany();
        notInForce();
        monthsGoingOn();
        tiredAsNow();
        atTheLastMonth();
        spreadChangesNothing();
        miles();
        roundOfOne();
        roundOfSeven();
        roundCannotBe();
        leastRound();
        readsAreKnownOrLoss();
        readsAsTiredAsWouldBe();
        readsByMonth();
        leastOrder();
        readsOfFive();
        bestOfTwelve();
        bestAsTiredAsWouldBe();
        talesOfTruth();
        talesOfFourRoads();
        talesAllAlongARow();
        talesNoParishTwice();
        talesOfNow();
        talesWhereNoneComes();
        talesLargest();
        Due.end();
    }

    private static BeggingLetter by(BeggingLetter x, String law) {
        Due.holds(law + " is a law", Due.law(x, law) > 0);
        return x;
    }

    /** SPREADS: "(100 at most)", "0: KNOWN", "-2: never": each PARISH of a row hears when m is one number. */
    private static void hundredMonths() {
        for (int m = 0; m < 12; m++) {
            BeggingLetter x = by(Given.row(12), "x(!m=" + m + ")");
            int in = 1;
            int last = 0;
            Due.is("known", x.spreads(0, 0), 0);
            for (int p = 1; p < 12; p++) {
                int months = m + 1 + 12 * (p - 1);
                Due.is("by m " + m + " in " + p, x.spreads(0, p), months <= 100 ? months : -2);
                in += months <= 100 ? 1 : 0;
                last = months <= 100 ? months : last;
            }
            Due.is("in how many", x.spreads(0, 100), in);
            Due.is("behind how many in the last", x.spreads(0, 101), last);
            Due.is("in which", x.spreads(0, 102), in - 1);
        }
        BeggingLetter x = by(Given.row(12), "x(!m=2)");
        Due.is("99", x.spreads(0, 9), 99);
        Due.is("100", by(x, "x(!m=3)").spreads(0, 9), 100);
        Due.is("101 is never", by(x, "x(!m=4)").spreads(0, 9), -2);
    }

    /** "In which (of like ones the lowest)". */
    private static void lastOfLikeOnes() {
        for (int home = 0; home < 12; home++) {
            BeggingLetter x = Given.parishes(12);
            for (int p = 0; p < 12; p++) {
                if (p != home) {
                    x.road(home, p, 1 + p);
                }
            }
            x.letter(0, home, 100);
            Due.is("behind one", x.spreads(0, 101), 1);
            Due.is("the lowest but for home", x.spreads(0, 102), home == 0 ? 1 : 0);
        }
        BeggingLetter x = Given.row(5);
        Due.report(x, "Ae:5");
        Due.is("in the middle", x.spreads(0, 102), 2);
        Due.report(x, "Ac:5");
        Due.is("1 and 3 alike", x.spreads(0, 102), 1);
        Due.report(x, "Ab:5;Ad:5");
        Due.is("all being known, the lowest", x.spreads(0, 102), 0);
        Due.is("behind none", x.spreads(0, 101), 0);
    }

    /** "In how many PARISHES it ever would": those where it is KNOWN among them. */
    private static void inHowMany() {
        for (int n = 1; n <= 12; n++) {
            BeggingLetter x = Given.row(n);
            Due.is("in a row of " + n, x.spreads(0, 100), n);
            Due.is("behind how many", x.spreads(0, 101), n - 1);
            Due.is("in which", x.spreads(0, 102), n - 1);
        }
        BeggingLetter x = Given.row(12);
        x.road(5, 6, 0);
        Due.is("to the gap", x.spreads(0, 100), 6);
        Due.is("never beyond it", x.spreads(0, 6), -2);
        Due.report(x, "Al:5");
        Due.is("from both ends", x.spreads(0, 100), 12);
        Due.report(x, "Aa!;Al!");
        Due.is("from nowhere", x.spreads(0, 100), 0);
        Due.is("no last one", x.spreads(0, 101), -2);
        Due.is("nowhere", x.spreads(0, 102), -2);
    }

    /** "-3: not in force": where it is KNOWN, too; no such ones are NONE ahead of it. */
    private static void notInForce() {
        BeggingLetter x = Given.row(3);
        Due.report(x, "Aa+150");
        Due.is("in force still", x.spreads(0, 100), 3);
        x.months(1);
        for (int what : new int[] {0, 1, 2, 100, 101, 102}) {
            Due.is("not in force, what " + what, x.spreads(0, what), -3);
        }
        for (int what : new int[] {-1, 3, 11, 12, 99, 103}) {
            Due.is("not in force, what " + what, x.spreads(0, what), -1);
        }
        x.letter(0, 0, 100);
        Due.is("in force again", x.spreads(0, 100), 3);
    }

    /** "(As a MONTH's (1) goes, m going on.)": from THE MONTH on, over the end of a year. */
    private static void monthsGoingOn() {
        for (int now = 0; now < 25; now++) {
            BeggingLetter x = Given.parishes(2);
            x.road(0, 1, 1);
            if (now > 0) {
                x.months(now);
            }
            x.letter(0, 0, 100);
            for (int m = 0; m < 12; m++) {
                by(x, "x(!m=" + m + ")");
                Due.is("from month " + now + " till m is " + m, x.spreads(0, 1), (m - now % 12 + 12) % 12 + 1);
            }
        }
        BeggingLetter x = by(Given.row(3), "t10(1=1);x(l=110)");
        Due.is("l as it is told by then", x.spreads(0, 2), -2);
        Due.is("l at home", x.spreads(0, 1), 1);
        by(x, "t10(1=1);x(l=100)");
        Due.is("not by l at home", x.spreads(0, 1), -2);
    }

    /** "(As a MONTH's (1) goes, m going on.)": m alone goes on, r stays as it is now. */
    private static void tiredAsNow() {
        BeggingLetter x = Given.row(3);
        x.letter(1, 1, 5000);
        Due.report(x, "Ab!");
        x.road(0, 1, 0);
        x.months(1);
        x.road(0, 1, 2);
        Due.is("tired by another letter", x.parishIs(1, 1), 1);
        Due.is("not by r of 1", by(x, "x(r=1)").spreads(0, 1), -2);
        Due.is("by r of 1 alone", by(x, "x(r=0&p=1)").spreads(0, 1), 1);
        Due.is("by r of 1 alone in any month", by(x, "x(!r=1&p=1);x(!m=7)").spreads(0, 1), 7);
    }

    /** At THE MONTH 9999 none goes by, but what would be is asked by m going on. */
    private static void atTheLastMonth() {
        BeggingLetter x = Given.row(2);
        Due.law(x, "x(1=1);h10(1=1)");
        for (int i = 0; i < 167; i++) {
            x.months(60);
        }
        Due.is("the month", x.count(0), 9999);
        Due.is("none goes by", x.months(1), 0);
        for (int m = 0; m < 12; m++) {
            int till = (m - 3 + 12) % 12;
            by(x, "x(!m=" + m + ");g9(m=" + m + ");h10(1=1)");
            Due.is("spreads by m " + m, x.spreads(0, 1), till + 1);
            Due.is("best by m " + m, x.bestMonth(0, 0, 0), till);
            Due.is("reads most by m " + m, x.readsMost(0, 1, 100), till == 0 ? 9 : 0);
        }
    }

    private static void spreadChangesNothing() {
        BeggingLetter x = by(Given.row(4), "t5(1=1)");
        x.months(1);
        x.spreads(0, 100);
        Due.is("the month", x.count(0), 1);
        Due.is("known", x.letterIs(0, 4), 3);
        Due.is("not known", x.toldAt(0, 2), -2);
        x.months(1);
        Due.is("told", x.toldAt(0, 2), 110);
    }

    /** MILES "by the shortest way (the same: 0); -2: no way": from 1 MILE to eleven ROADS of 99. */
    private static void miles() {
        BeggingLetter x = Given.parishes(12);
        for (int p = 0; p < 11; p++) {
            x.road(p, p + 1, 99);
        }
        for (int p = 0; p < 12; p++) {
            for (int q = 0; q < 12; q++) {
                Due.is("miles " + p + " " + q, x.miles(p, q), 99 * Math.abs(p - q));
            }
        }
        x.road(0, 11, 99);
        Due.is("straight on", x.miles(0, 11), 99);
        Due.is("around", x.miles(1, 11), 198);
        x.road(0, 2, 99);
        x.road(0, 3, 98);
        x.road(3, 2, 1);
        Due.is("two ways of 99", x.miles(0, 2), 99);
        x.road(0, 3, 97);
        Due.is("the shorter one", x.miles(0, 2), 98);
        x.road(3, 2, 3);
        Due.is("the straight one", x.miles(0, 2), 99);
        for (int p = 0; p < 12; p++) {
            x.road(p, 5, 0);
        }
        Due.is("no way from 5", x.miles(5, 6), -2);
        Due.is("no way to 5", x.miles(6, 5), -2);
        Due.is("but to itself", x.miles(5, 5), 0);
    }

    /** "From a PARISH through 1 to 7 others and back": one, there and back by the shortest way. */
    private static void roundOfOne() {
        BeggingLetter x = Given.parishes(12);
        x.road(0, 11, 99);
        Due.is("there and back", x.round(0, 1 << 11, 100), 198);
        Due.is("there", x.round(0, 1 << 11, 0), 11);
        Due.is("no second place", x.round(0, 1 << 11, 1), -1);
        x.road(0, 5, 1);
        x.road(5, 11, 1);
        Due.is("by a parish that is not asked for", x.round(0, 1 << 11, 100), 4);
        Due.is("which has no place in the row", x.round(0, 1 << 11, 0), 11);
        Due.is("from the other one", x.round(11, 1, 100), 4);
    }

    /** Seven others, all by ROADS of 99. */
    private static void roundOfSeven() {
        BeggingLetter x = Given.parishes(12);
        int[] circle = {11, 4, 9, 2, 7, 0, 5, 10};
        int bits = 0;
        for (int i = 0; i < 8; i++) {
            x.road(circle[i], circle[(i + 1) % 8], 99);
            bits |= 1 << circle[i];
        }
        for (int i = 0; i < 8; i++) {
            int from = circle[i];
            int others = bits & ~(1 << from);
            Due.is("round from " + from, x.round(from, others, 100), 8 * 99);
            int next = circle[(i + 1) % 8];
            int before = circle[(i + 7) % 8];
            int step = next < before ? 1 : 7;
            for (int place = 0; place < 7; place++) {
                Due.is("place " + place, x.round(from, others, place), circle[(i + step * (place + 1)) % 8]);
            }
            Due.is("no place 7", x.round(from, others, 7), -1);
        }
        Due.is("eight others", x.round(3, bits, 100), -1);
    }

    /** "-2: it can't be": whichever can't be come to; no such ones are NONE ahead of it. */
    private static void roundCannotBe() {
        for (int cut = 1; cut < 8; cut++) {
            BeggingLetter x = Given.row(8);
            x.road(cut - 1, cut, 0);
            Due.is("miles", x.round(0, 0xfe, 100), -2);
            Due.is("place 0", x.round(0, 0xfe, 0), -2);
            Due.is("place 6", x.round(0, 0xfe, 6), -2);
            Due.is("place 7", x.round(0, 0xfe, 7), -1);
            Due.is("the last alone", x.round(0, 0x80, 100), -2);
            int near = (1 << cut) - 2;
            Due.is("those before it", x.round(0, near, 100), near == 0 ? -1 : 4 * (cut - 1));
        }
        Due.is("no road at all", Given.parishes(2).round(0, 2, 100), -2);
    }

    /** "Of like ones the least row", place by place. */
    private static void leastRound() {
        BeggingLetter x = Given.parishes(8);
        for (int p = 0; p < 8; p++) {
            for (int q = 0; q < p; q++) {
                x.road(p, q, 10);
            }
        }
        for (int from = 0; from < 8; from++) {
            int others = 0xff & ~(1 << from);
            Due.is("all alike", x.round(from, others, 100), 80);
            for (int place = 0; place < 7; place++) {
                Due.is("the least row", x.round(from, others, place), place < from ? place : place + 1);
            }
        }
        x.road(0, 1, 11);
        x.road(0, 2, 11);
        Due.is("one mile more for 1 and for 2", x.round(0, 14, 100), 41);
        Due.is("1 being first all the same", x.round(0, 14, 0), 1);
        Due.is("not last", x.round(0, 14, 2), 3);
        Due.is("four", x.round(0, 30, 100), 50);
        int[] row = {3, 1, 2, 4};
        for (int place = 0; place < 4; place++) {
            Due.is("neither first nor last", x.round(0, 30, place), row[place]);
        }
    }

    /** "As if KNOWN as they are there, or as their LOSS": told ones, in force or not, READ or not. */
    private static void readsAreKnownOrLoss() {
        BeggingLetter x = by(Given.parishes(2), "gl(1=1)");
        x.letter(0, 0, 300);
        x.letter(5, 1, 400);
        Due.report(x, "Ab:7;Fa:0");
        Due.is("as known, both", x.readsMost(0, 33, 100), 300);
        Due.is("as known there", x.readsMost(1, 33, 100), 407);
        Due.report(x, "Ab!;Fa!");
        Due.is("as its loss", x.readsMost(1, 33, 100), 700);
        Due.report(x, "Aa+999");
        x.months(1);
        Due.is("not in force", x.letterIs(0, 3), 0);
        Due.is("read", x.letterIs(0, 5), 1);
        Due.is("all the same", x.readsMost(0, 33, 100), 700);
        Due.is("best month, too", x.bestMonth(0, 0, 1), 300);
        Due.is("elsewhere", x.bestMonth(0, 5, 1), 400);
    }

    /** "g by r as it would be": what was READ is forgotten, what is read one a MONTH is remembered. */
    private static void readsAsTiredAsWouldBe() {
        // what it remembers, the newest first: 0 or 1 of each of three months
        for (int memory = 0; memory < 8; memory++) {
            BeggingLetter x = Given.parishes(2);
            for (int ago = 2; ago >= 0; ago--) {
                if ((memory >> ago & 1) == 1) {
                    x.letter(0, 0, 5000);
                }
                x.months(1);
            }
            for (int k = 0; k < 5; k++) {
                x.letter(k, 1, 100);
            }
            int now = Integer.bitCount(memory);
            Due.is("tired by " + memory, x.parishIs(0, 1), now);
            int[] would = {now, 1 + Integer.bitCount(memory & 3), 2 + (memory & 1), 3, 3};
            int sum = 0;
            for (int letters = 1; letters <= 5; letters++) {
                sum += would[letters - 1];
                Due.is("tired with " + letters, by(x, "gr(1=1)").readsMost(0, (1 << letters) - 1, 100), sum);
            }
            int[] rest = {now, Integer.bitCount(memory & 3), memory & 1, 0};
            for (int months = 0; months < 4; months++) {
                by(x, "g500-100*r(m=" + (3 + months) + ");g0(1=1)");
                Due.is("rested " + months, x.bestMonth(0, 0, 1), 500 - 100 * rest[months]);
            }
        }
    }

    /** "From now on": the first now, each next one a MONTH later, over the end of a year. */
    private static void readsByMonth() {
        for (int now = 0; now < 13; now++) {
            BeggingLetter x = by(Given.parishes(1), "g10*m+1(1=1)");
            if (now > 0) {
                x.months(now);
            }
            for (int k = 0; k < 5; k++) {
                x.letter(k, 0, 100);
            }
            int sum = 0;
            for (int n = 1; n <= 5; n++) {
                sum += 10 * ((now + n - 1) % 12) + 1;
                Due.is(n + " from month " + now, x.readsMost(0, (1 << n) - 1, 100), sum);
            }
        }
    }

    /** "Of like ones the least row": of LETTERS, by places. */
    private static void leastOrder() {
        BeggingLetter x = by(Given.all(), "g5(1=1)");
        for (int bits = 1; bits < 63; bits++) {
            int place = 0;
            for (int k = 0; k < 6; k++) {
                if ((bits >> k & 1) == 1) {
                    Due.is("of " + bits + " at " + place, x.readsMost(0, bits, place), k);
                    place++;
                }
            }
        }
        by(x, "g9(k=3&m=2);g1(1=1)");
        int[] row = {0, 1, 3, 2, 4};
        for (int place = 0; place < 5; place++) {
            Due.is("3 in the third month", x.readsMost(0, 31, place), row[place]);
        }
        by(x, "g9(k=0&m=4);g9(k=1&m=4);g1(1=1)");
        int[] last = {0, 2, 3, 4, 1};
        for (int place = 0; place < 5; place++) {
            Due.is("0 or 1 in the last: the least row", x.readsMost(0, 31, place), last[place]);
        }
    }

    /** Five LETTERS, the most that is given by each. */
    private static void readsOfFive() {
        BeggingLetter x = by(Given.all(), "g1000(1=1);h10(1=1)");
        Due.is("999 each, nothing is held back", x.readsMost(0, 31, 100), 5 * 999);
        Due.is("the highest ones", x.readsMost(11, 62, 100), 5 * 999);
        Due.is("its last place", x.readsMost(11, 62, 4), 5);
        Due.is("six are too many", x.readsMost(11, 63, 100), -1);
        by(x, "g0-5(1=1)");
        Due.is("nothing", x.readsMost(0, 31, 100), 0);
        Due.is("in order", x.readsMost(0, 31, 4), 4);
    }

    /** "BEST MONTH of 12 from now on": 0 to 11, of like ones the first. */
    private static void bestOfTwelve() {
        for (int now : new int[] {0, 1, 11, 12, 13}) {
            BeggingLetter x = Given.parishes(1);
            if (now > 0) {
                x.months(now);
            }
            x.letter(0, 0, 100);
            for (int m = 0; m < 12; m++) {
                by(x, "g9(m=" + m + ");g8(1=1)");
                Due.is("from " + now + " till m is " + m, x.bestMonth(0, 0, 0), (m - now % 12 + 12) % 12);
                Due.is("how much", x.bestMonth(0, 0, 1), 9);
            }
            Due.is("all alike: the first", by(x, "g7(1=1)").bestMonth(0, 0, 0), 0);
            Due.is("nothing: the first", by(x, "x(1=1)").bestMonth(0, 0, 0), 0);
            Due.is("nothing", x.bestMonth(0, 0, 1), 0);
        }
    }

    /** "None other being read": TIRED fades, and a thirteenth MONTH is none of the twelve. */
    private static void bestAsTiredAsWouldBe() {
        BeggingLetter x = Given.parishes(1);
        for (int k = 0; k < 3; k++) {
            x.letter(k, 0, 5000);
        }
        x.months(3);
        Due.is("tired", x.parishIs(0, 1), 3);
        for (int r = 3; r >= 0; r--) {
            Due.is("till r is " + r, by(x, "g9(r=" + r + ")").bestMonth(0, 0, 0), 3 - r);
        }
        by(x, "g9(r=0&m=3);g5(1=1)");
        Due.is("not a year from now", x.bestMonth(0, 0, 1), 5);
        by(x, "g9(r=0&m=2);g5(1=1)");
        Due.is("but eleven months", x.bestMonth(0, 0, 0), 11);
    }

    private static void told(BeggingLetter x, int p, int told, boolean isTrue) {
        x.keep();
        Due.report(x, "A" + (char) ('a' + p) + ":" + told);
        Due.is("told in " + p + " as " + told, x.tales(0, 0), isTrue ? 0 : 1 << p);
        x.undo();
    }

    /** "As less than in truth, or as more than all t from HOME on ... could make it". */
    private static void talesOfTruth() {
        BeggingLetter x = by(Given.row(2), "t30(1=1)");
        int[] numbers = {0, 99, 100, 101, 129, 130, 131, 9999};
        boolean[] are = {false, false, true, true, true, true, false, false};
        for (int i = 0; i < numbers.length; i++) {
            told(x, 1, numbers[i], are[i]);
        }
        told(x, 0, 99, false);
        told(x, 0, 100, true);
        told(x, 0, 101, false);
        by(x, "t0(1=1)");
        told(x, 1, 99, false);
        told(x, 1, 100, true);
        told(x, 1, 101, false);
    }

    /** "At most 4 ROADS". */
    private static void talesOfFourRoads() {
        BeggingLetter x = by(Given.row(7), "t10(1=1)");
        for (int p = 1; p < 7; p++) {
            told(x, p, 99, false);
            told(x, p, 100, p <= 4);
            told(x, p, 100 + 10 * p, p <= 4);
            told(x, p, 101 + 10 * p, false);
        }
        x.road(0, 6, 2);
        int[] most = {100, 110, 120, 140, 140, 120, 110};
        for (int p = 1; p < 7; p++) {
            told(x, p, most[p], true);
            told(x, p, most[p] + 1, false);
        }
    }

    /** "At most 4 ROADS", where a LETTER is KNOWN all along: what came by five can't be true. */
    private static void talesAllAlongARow() {
        for (int home = 0; home < 12; home++) {
            BeggingLetter x = by(Given.row(12), "t10(1=1)");
            x.letter(0, home, 100);
            int far = 0;
            for (int p = 0; p < 12; p++) {
                far |= Math.abs(p - home) > 4 ? 1 << p : 0;
            }
            x.months(11);
            Due.is("known everywhere from " + home, x.letterIs(0, 4), 4095);
            Due.is("told true from " + home, x.tales(0, 0), far);
            by(x, "t9(1=1)");
            Due.is("all too large but at home " + home, x.tales(0, 0), 4095 ^ 1 << home);
            by(x, "t11(1=1)");
            Due.is("smaller than could be from " + home, x.tales(0, 0), far);
        }
    }

    /** "No PARISH twice": going to and fro makes nothing larger. */
    private static void talesNoParishTwice() {
        BeggingLetter x = by(Given.row(2), "t10(1=1)");
        told(x, 1, 110, true);
        told(x, 1, 111, false);
        told(x, 0, 101, false);
        x.parish(2, 0);
        x.road(1, 2, 1);
        told(x, 1, 111, false);
        x.road(0, 2, 1);
        told(x, 1, 120, true);
        told(x, 1, 121, false);
        told(x, 0, 101, false);
    }

    /** "Each ROAD's t asked by l as it would be told, m now; ... x aside". */
    private static void talesOfNow() {
        BeggingLetter x = by(Given.row(3), "tl/10+m(1=1);x(1=1)");
        told(x, 1, 110, true);
        told(x, 1, 111, false);
        told(x, 2, 121, true);
        told(x, 2, 122, false);
        x.months(11);
        told(x, 1, 121, true);
        told(x, 1, 122, false);
        told(x, 2, 144, true);
        told(x, 2, 145, false);
        x.months(1);
        told(x, 2, 121, true);
        told(x, 2, 122, false);
        by(x, "t[p+1]*w+d(1=1)");
        told(x, 2, 100 + 22 + 2 + 36 + 2, true);
        told(x, 2, 100 + 22 + 2 + 36 + 3, false);
    }

    /** "(... where none comes: as more)": by no ROAD at all, or by five. */
    private static void talesWhereNoneComes() {
        BeggingLetter x = Given.row(6);
        x.parish(11, 5);
        for (int told : new int[] {0, 99, 100, 101, 9999}) {
            told(x, 11, told, false);
            told(x, 5, told, false);
        }
        told(x, 4, 100, true);
        x.road(5, 0, 9);
        told(x, 5, 100, true);
        Due.report(x, "Aa:99;Ab:99;Ac:101;Ad:100;Af:100;Al:100");
        Due.is("bits", x.tales(0, 0), 1 + 2 + 4 + 2048);
        Due.report(x, "Aa!;Ab!;Ac!;Ad!;Af!;Al!");
        Due.is("known nowhere", x.tales(0, 0), 0);
    }

    /** "The most by which one is told larger (0 at least)"; "where (of like ones the lowest; -2: nowhere larger)". */
    private static void talesLargest() {
        BeggingLetter x = Given.row(12);
        String[] reports = {"Aa:100", "Aa:0", "Ab:99", "Ab:100", "Ab:101", "Al:101", "Ac:102", "Al:102", "Al:9999", "Aa:9999"};
        int[] most = {0, 0, 0, 0, 1, 1, 2, 2, 9899, 9899};
        int[] where = {-2, -2, -2, -2, 1, 1, 2, 2, 11, 0};
        for (int i = 0; i < reports.length; i++) {
            Due.report(x, reports[i]);
            Due.is("the most behind " + reports[i], x.tales(0, 1), most[i]);
            Due.is("where behind " + reports[i], x.tales(0, 2), where[i]);
        }
        Due.report(x, "Aa!;Al!;Ab!;Ac!");
        Due.is("known nowhere", x.tales(0, 1), 0);
        Due.is("nowhere", x.tales(0, 2), -2);
        x.letter(0, 0, 9999);
        Due.report(x, "Ab:9998");
        Due.is("less is not larger", x.tales(0, 1), 0);
        Due.is("nowhere", x.tales(0, 2), -2);
    }
}
