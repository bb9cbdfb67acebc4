/** Promise 6 at its bounds: what THE LAW is worth, number by number. */
final class LawWorthTest {
    /** The most and the least that 32 bits hold, as a law can say them. */
    private static final String MOST = "[32767*65536+65535]";
    private static final String LEAST = "[32768*65536]";

    private LawWorthTest() {
    }

    public static void main(String[] args) {
        given();
        toldMore();
        heldBack();
        none();
        firstRule();
        anyOfX();
        partsAndTests();
        compared();
        fromTheLeftOn();
        fiveDigits();
        wrapAround();
        dividedRoundedToNought();
        refusedInSum();
        refusedInTest();
        asMuchAsMatters();
        lettersAtBounds();
        notTold();
        monthModuloTwelve();
        manyWaiting();
        Due.end();
    }

    private static BeggingLetter by(BeggingLetter x, String law) {
        Due.holds(law + " is a law", Due.law(x, law) > 0);
        return x;
    }

    private static void gift(String law, int due) {
        Due.is("given by " + law, by(Given.row(2), law).bestMonth(0, 0, 1), due);
    }

    private static void sum(String sum, int due) {
        gift("g" + sum + "(1=1)", due);
    }

    /** A C that holds, one that does not (and is not REFUSED), one that is REFUSED. */
    private static void holds(String test) {
        gift("g1(" + test + ");g2(1=1)", 1);
        gift("g1(!(" + test + "));g2(1=1)", 2);
    }

    private static void fails(String test) {
        gift("g1(" + test + ");g2(1=1)", 2);
        gift("g1(!(" + test + "));g2(1=1)", 1);
    }

    private static void refuses(String test) {
        gift("g1(" + test + ");g2(1=1)", 2);
        gift("g1(!(" + test + "));g2(1=1)", 2);
    }

    /** "g pence that are given (0 to 999)", "beyond its bounds the bound". */
    private static void given() {
        String[] sums = {"0-1", "0", "1", "998", "999", "1000", "99999", LEAST, MOST, LEAST + "+1", LEAST + "-1"};
        int[] due = {0, 0, 1, 998, 999, 999, 999, 0, 999, 0, 999};
        for (int i = 0; i < sums.length; i++) {
            sum(sums[i], due[i]);
            BeggingLetter x = by(Given.row(1), "g" + sums[i] + "(1=1)");
            x.months(1);
            Due.is("fund by g" + sums[i], x.letterIs(0, 2), (2 * due[i] + 2) / 3);
            Due.is("farmed by g" + sums[i], x.count(2), due[i] / 3);
        }
    }

    /** "t by how much more a LOSS is told (0 to 999)". */
    private static void toldMore() {
        String[] sums = {"0-1", "0", "1", "998", "999", "1000", "99999", LEAST, MOST};
        int[] due = {0, 0, 1, 998, 999, 999, 999, 0, 999};
        for (int i = 0; i < sums.length; i++) {
            BeggingLetter x = by(Given.row(2), "t" + sums[i] + "(1=1)");
            x.months(1);
            Due.is("told by t" + sums[i], x.toldAt(0, 1), 100 + due[i]);
        }
    }

    /** "h tenths that a LETTER is held back (0 to 10)": "with a DRAW below h". */
    private static void heldBack() {
        int[] seeds = new int[10];
        for (int seed = 0; seed < 1000; seed++) {
            seeds[(25173 * seed + 13849) % 65536 % 10] = seed;
        }
        for (int draw = 0; draw < 10; draw++) {
            for (int h = 0; h <= 12; h++) {
                BeggingLetter x = by(Given.row(1), "h" + h + "(1=1)");
                x.seed(seeds[draw]);
                Due.is("held back by h" + h + ", draw " + draw, x.tried(1, 1), draw < h ? 1 : 0);
                Due.is("read by h" + h + ", draw " + draw, x.tried(1, 0), draw < h ? 0 : 1);
            }
            for (String low : new String[] {"0-1", "0-99999", LEAST}) {
                BeggingLetter x = by(Given.row(1), "h" + low + "(1=1)");
                x.seed(seeds[draw]);
                Due.is("held back by h" + low + ", draw " + draw, x.tried(1, 1), 0);
            }
            BeggingLetter x = by(Given.row(1), "h" + MOST + "(1=1)");
            x.seed(seeds[draw]);
            Due.is("held back by the most, draw " + draw, x.tried(1, 1), 1);
        }
    }

    /** "None: 0": without a LAW, without a RULE of a kind, without one whose C holds. */
    private static void none() {
        String[] laws = {"", "x(1=2)", "g5(1=2);t5(1=2);h10(1=2)"};
        for (String law : laws) {
            BeggingLetter x = law.isEmpty() ? Given.row(2) : by(Given.row(2), law);
            x.seed(1);
            Due.is("held back", x.tried(1, 1), 0);
            Due.is("read", x.months(1), 2);
            Due.is("given", x.letterIs(0, 2), 0);
            Due.is("told", x.toldAt(0, 1), 100);
        }
        Due.is("no law at first", new BeggingLetter().count(6), 0);
    }

    /** "Of the first RULE of g, t, h whose C holds the E." */
    private static void firstRule() {
        gift("g1(1=1);g2(1=1)", 1);
        gift("g1(1=2);g2(1=1);g3(1=1)", 2);
        gift("g1(1=2);g2(1=2);g3(1=1)", 3);
        gift("t9(1=1);h9(1=1);x(1=1);g3(1=1)", 3);
        String last = Due.times("g1(1=2);", 15) + "g7(1=1)";
        gift(last, 7);
        gift(Due.times("g1(1=2);", 15) + "g1+1*[1+1*[1+1*[1+1*3]]](1=1)", 7);
        gift(Due.times("g1(1=2);", 15) + "g7([1+1*[1+1*[1+1*[1+1*3]]]]=7)", 7);
        gift("g0(1=1);g9(1=1)", 0);
        BeggingLetter x = by(Given.row(2), "g7(1=1);t1(1=2);t2(1=1);t3(1=1)");
        x.months(1);
        Due.is("told by the second t", x.toldAt(0, 1), 102);
        BeggingLetter y = by(Given.row(1), "h10(1=2);h0(1=1);h10(1=1)");
        Due.is("held back by the second h", y.tried(1, 1), 0);
    }

    /** "x a PARISH does not hear ... (any will do; without an x in THE LAW all do)". */
    private static void anyOfX() {
        String[] laws = {"g1(1=1)", "x(1=2)", "x(1=1)", "x(1=2);x(1=1)", "x(1=1);x(1=2)", "x(1=2);x(1=2)",
            Due.times("x(1=2);", 15) + "x(1=1)", "x(1/0=0)", "x(1/0=0);x(1=1)"};
        boolean[] hears = {true, true, false, false, false, true, false, true, false};
        for (int i = 0; i < laws.length; i++) {
            BeggingLetter x = by(Given.row(2), laws[i]);
            Due.is("spreads by " + laws[i], x.spreads(0, 1), hears[i] ? 1 : -2);
            x.months(1);
            Due.is("hears by " + laws[i], x.letterIs(0, 4), hears[i] ? 3 : 1);
        }
        Due.is("without a law", Given.row(2).spreads(0, 1), 1);
    }

    /** "PARTS with a | between two, one of which must hold; a PART: TESTS with an & between two, all of which must." */
    private static void partsAndTests() {
        String[] tests = {"1=2", "1=1"};
        for (int bits = 0; bits < 16; bits++) {
            boolean a = (bits & 1) == 1;
            boolean b = (bits & 2) == 2;
            boolean c = (bits & 4) == 4;
            boolean d = (bits & 8) == 8;
            String[] t = {tests[bits & 1], tests[bits >> 1 & 1], tests[bits >> 2 & 1], tests[bits >> 3]};
            truth(t[0] + "|" + t[1] + "|" + t[2] + "|" + t[3], a || b || c || d);
            truth(t[0] + "&" + t[1] + "&" + t[2] + "&" + t[3], a && b && c && d);
            truth(t[0] + "&" + t[1] + "|" + t[2] + "&" + t[3], a && b || c && d);
            truth(t[0] + "|" + t[1] + "&" + t[2] + "|" + t[3], a || b && c || d);
            truth("(" + t[0] + "|" + t[1] + ")&(" + t[2] + "|" + t[3] + ")", (a || b) && (c || d));
            truth("!" + t[0] + "&" + t[1] + "|!(" + t[2] + "|" + t[3] + ")", !a && b || !(c || d));
            truth("!!" + t[0] + "&!" + t[1], a && !b);
        }
    }

    private static void truth(String test, boolean due) {
        if (due) {
            holds(test);
        } else {
            fails(test);
        }
    }

    /** "E, one of < > =, and E": at, below, above. */
    private static void compared() {
        String[] numbers = {LEAST, LEAST + "+1", "0-1", "0", "1", MOST + "-1", MOST};
        for (int i = 0; i < numbers.length; i++) {
            for (int j = 0; j < numbers.length; j++) {
                truth(numbers[i] + "<" + numbers[j], i < j);
                truth(numbers[i] + ">" + numbers[j], i > j);
                truth(numbers[i] + "=" + numbers[j], i == j);
            }
        }
    }

    private static void fromTheLeftOn() {
        sum("9-3-2", 4);
        sum("9-3+2", 8);
        sum("100/10/2", 5);
        sum("100/10*2", 20);
        sum("100*10/20", 50);
        sum("100%30%4", 2);
        sum("7%4*5", 15);
        sum("20-2*3-1", 13);
        sum("20-[2*3-1]", 15);
        sum("100/[10/2]", 20);
        sum("2*3%4+10/3", 5);
    }

    /** "A number of one to five digits": as they stand, noughts ahead or not. */
    private static void fiveDigits() {
        String[] numbers = {"0", "00000", "1", "00001", "9", "10", "99", "100", "999", "00999"};
        int[] due = {0, 0, 1, 1, 9, 10, 99, 100, 999, 999};
        for (int i = 0; i < numbers.length; i++) {
            sum(numbers[i], due[i]);
        }
        sum("99999-99000", 999);
        sum("12345-12000", 345);
        sum("10000/100", 100);
        holds("99999=9999*10+9");
    }

    /** "All is reckoned with 32 bits, as the machine does." */
    private static void wrapAround() {
        holds(MOST + "+1=" + LEAST);
        holds(LEAST + "-1=" + MOST);
        holds("0-" + LEAST + "=" + LEAST);
        holds("0-" + MOST + "-1=" + LEAST);
        holds(MOST + "+" + MOST + "=0-2");
        holds(MOST + "*" + MOST + "=1");
        holds(LEAST + "*[0-1]=" + LEAST);
        holds(LEAST + "*" + LEAST + "=0");
        holds("65536*65536=0");
        holds("65536*32768<0");
        holds("65536*32767>0");
        holds("46341*46341<0");
        holds("46340*46340>0");
        holds("99999*99999=14098*10000*10+65409");
        holds(LEAST + "/[0-1]=" + LEAST);
        holds(LEAST + "%[0-1]=0");
    }

    private static void dividedRoundedToNought() {
        holds("[0-7]/2=0-3");
        holds("[0-7]%2=0-1");
        holds("7/[0-2]=0-3");
        holds("7%[0-2]=1");
        holds("[0-7]/[0-2]=3");
        holds("[0-7]%[0-2]=0-1");
        holds("1/2=0");
        holds("[0-1]/2=0");
        holds("0/5=0");
        holds("0%5=0");
    }

    /** "What is divided by 0 is REFUSED: ... the E of it is 0", of the first RULE whose C holds all the same. */
    private static void refusedInSum() {
        String[] sums = {"1/0", "1%0", "0/0", "5+1/0", "1/0+5", "0*[1/0]", "[1/0]*0", "7/[w-w]", "7%[w-w]", "1/[1/0]",
            "1/[1%0]", "5-[2+[3/[1-1]]]", "1/[1/2]", "999+1/0*1000"};
        for (String sum : sums) {
            sum(sum, 0);
            gift("g" + sum + "(1=1);g9(1=1)", 0);
            gift("g" + sum + "(1=2);g9(1=1)", 9);
            BeggingLetter x = by(Given.row(2), "t" + sum + "(1=1);t9(1=1)");
            x.months(1);
            Due.is("told by t" + sum, x.toldAt(0, 1), 100);
            Due.is("held back by h" + sum, by(Given.row(1), "h" + sum + "(1=1);h10(1=1)").tried(1, 1), 0);
        }
        sum("1/1", 1);
        sum("1%1", 0);
        sum("9/[0-1]+20", 11);
    }

    /** "Then the whole C of the RULE does not hold." */
    private static void refusedInTest() {
        refuses("1/0=1");
        refuses("1%0=1");
        refuses("1=1/0");
        refuses("0/0=0/0");
        refuses("1/0<5");
        refuses("1/0>5");
        refuses("!1/0=1");
        refuses("!!1/0=1");
        refuses("(1/0=1)");
        refuses("1/0=1|1=1");
        refuses("1/0=1&1=2");
        refuses("1/0=1&1=2|1=1");
        refuses("(1/0=1|1=1)|1=1");
        refuses("!(1/0=1&1=2)|1=1");
        refuses("1=1&1/0=1|1=1");
        refuses("1=2|1/0=1");
        refuses("1=2|1/0=1|1=1");
        gift("g1(1/0=0);g2(1%0=0);g3(1=1)", 3);
    }

    /** "Of a C as much is asked, from the left, as matters." */
    private static void asMuchAsMatters() {
        holds("1=1|1/0=1");
        holds("1=1|1=2|1/0=1");
        holds("1=2|1=1|1/0=1");
        fails("1=2&1/0=1");
        fails("1=1&1=2&1/0=1");
        holds("1=2&1/0=1|1=1");
        fails("1=2&1/0=1|1=2");
        holds("1=1|1=1&1/0=1");
        fails("1=2&(1=1&1/0=1)");
        fails("1=2&(1/0=1|1=1)");
        holds("1=1|(1/0=1&1=2)");
        holds("1=1|!1/0=1");
        fails("1=2&!1/0=1");
        holds("(1=1|1/0=1)&1=1");
        holds("!(1=2&1/0=1)");
        fails("!(1=1|1/0=1)");
        refuses("(1=1|1/0=1)&1/0=1");
        refuses("(1=2&1/0=1)|1/0=1");
    }

    /** The letters at their bounds: p 0 and 11, w 0 and 99, k 0 and 5, r 0 to 3, l 0 to 9999, d 1 and 99. */
    private static void lettersAtBounds() {
        for (int p = 0; p < 12; p++) {
            BeggingLetter x = new BeggingLetter();
            x.parish(p, 9 * p);
            x.parish(11 - p, 9 * (11 - p));
            x.road(p, 11 - p, 9 * p % 99 + 1);
            x.letter(p % 6, 11 - p, 9 * p + 1);
            Due.is("p", by(x, "gp(1=1)").bestMonth(p, p % 6, 1), p);
            Due.is("w", by(x, "gw(1=1)").bestMonth(p, p % 6, 1), 9 * p);
            Due.is("k", by(x, "gk(1=1)").bestMonth(p, p % 6, 1), p % 6);
            Due.is("l", by(x, "gl(1=1)").bestMonth(p, p % 6, 1), 9 * p + 1);
            by(x, "td(1=1)").months(1);
            Due.is("d", x.toldAt(p % 6, p), 9 * p + 1 + (9 * p % 99 + 1));
        }
        for (int loss : new int[] {0, 1, 998, 999}) {
            BeggingLetter x = Given.row(1);
            Due.report(x, "Aa:" + loss);
            Due.is("l " + loss, by(x, "gl(1=1)").bestMonth(0, 0, 1), loss);
        }
        for (int wealth : new int[] {0, 1, 98, 99}) {
            BeggingLetter x = Given.row(1);
            x.parish(0, wealth);
            Due.is("w " + wealth, by(x, "gw(1=1)").bestMonth(0, 0, 1), wealth);
        }
        for (int miles : new int[] {1, 2, 98, 99}) {
            BeggingLetter x = by(Given.row(2), "td(1=1)");
            x.road(0, 1, miles);
            x.months(1);
            Due.is("d " + miles, x.toldAt(0, 1), 100 + miles);
            BeggingLetter y = by(Given.row(2), "x(d=" + miles + ")");
            y.road(0, 1, miles);
            Due.is("x by d " + miles, y.spreads(0, 1), -2);
        }
    }

    /** "Where they are not told they are 0": d where a LETTER is read. */
    private static void notTold() {
        sum("d+5", 5);
        sum("100/[d+1]", 100);
        BeggingLetter x = by(Given.row(2), "t9(d=2);g50(d=0);g1(1=1);h10(d>0)");
        x.months(1);
        Due.is("told by d", x.toldAt(0, 1), 109);
        Due.is("read where d is 0, twice 50", x.letterIs(0, 2), 68);
        Due.is("elsewhere, too", x.bestMonth(1, 0, 1), 50);
    }

    /** "m THE MONTH modulo 12": from 0 to 11 and on. */
    private static void monthModuloTwelve() {
        BeggingLetter x = by(Given.row(1), "gm(p=0)");
        for (int month = 0; month <= 37; month++) {
            Due.is("m in month " + month, x.readsMost(0, 1, 100), month % 12);
            x.months(1);
        }
        BeggingLetter y = by(Given.parishes(2), "td+m(1=1);g50*m(1=1);h10(m=11)");
        y.road(0, 1, 1);
        y.months(11);
        y.letter(0, 0, 5000);
        Due.is("held back in month 11", y.months(1), 0);
        Due.is("told by m 11", y.toldAt(0, 1), 5012);
        Due.is("read in month 12", y.months(1), 2);
        Due.is("m is 0 then", y.letterIs(0, 2), 0);
    }

    /** As many numbers as can wait for one another in one RULE. */
    private static void manyWaiting() {
        String deep = "1+1*[1+1*[1+1*[1+1*[1+1*[1+1*[1+1*3]]]]]]";
        sum(deep, 10);
        gift("g1(1=2|1=1&(1=2|1=1&(1=2|1=1&(1=2|1=1&(1=2|1=1&(1=2|1=1&1+2*3=7))))));g2(1=1)", 1);
        gift("g1(1=2|1=1&1+2*[1+2*[1+2*[1+2*[1+2*3]]]]=127);g2(1=1)", 1);
        gift("g1(1=2|1=1&127=1+2*[1+2*[1+2*[1+2*[1+2*3]]]]);g2(1=1)", 1);
        gift("g1(1=2|1=1&(1=2|1=1&(1=2|1=1&127/1+0*5=1+2*[1+2*[1+2*15]])));g2(1=1)", 1);
    }
}
