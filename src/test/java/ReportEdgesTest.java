/** Promise 7 at its bounds: what can stand where in a REPORT, how much of it, and its FAULTS with their places. */
final class ReportEdgesTest {
    private static final String DIGITS = "0123456789";
    private static final String CAPITALS = "ABCDEF";
    private static final String PARISHES = "abcdefghijkl";

    private ReportEdgesTest() {
    }

    public static void main(String[] args) {
        whatCanStand();
        theEnd();
        noBlanks();
        digits();
        twentyLines();
        untoldLetters();
        untoldParishes();
        firstFromTheLeft();
        bytes();
        numbersAsTold();
        twoThirds();
        readThere();
        notKnownNotRead();
        nothingIsDone();
        fundsAreFull();
        Due.end();
    }

    private static int report(String text) {
        return Due.report(Given.all(), text);
    }

    /** Behind a text that is no report yet: the signs that can stand there, and none else. */
    private static void after(String text, String signs) {
        for (int sign = 0; sign < 256; sign++) {
            boolean isFit = signs.indexOf(sign) >= 0;
            int due = isFit ? -1001 - text.length() : -1000 - text.length();
            Due.is("report " + text + ", sign " + sign, report(text + (char) sign), due);
        }
    }

    /** Behind a text that may end: the signs by which it is a report still, and those by which it goes on. */
    private static void behind(String text, String still) {
        for (int sign = 0; sign < 256; sign++) {
            int due = still.indexOf(sign) >= 0 ? 1 : sign == ';' ? -1001 - text.length() : -1000 - text.length();
            Due.is("report " + text + ", sign " + sign, report(text + (char) sign), due);
        }
    }

    /** FAULT 1: what can't stand there. */
    private static void whatCanStand() {
        after("Aa!;", CAPITALS);
        after("Aa:1;", CAPITALS);
        after("A", PARISHES);
        after("F", PARISHES);
        after("Aa+1;F", PARISHES);
        for (int sign = 0; sign < 256; sign++) {
            char c = (char) sign;
            Due.is("a line by sign " + sign, report("" + c), CAPITALS.indexOf(c) >= 0 ? -1001 : -1000);
            Due.is("behind Fl, sign " + sign, report("Fl" + c), c == '!' ? 1 : c == ':' || c == '+' ? -1003 : -1002);
            Due.is("behind :, sign " + sign, report("Fl:" + c), DIGITS.indexOf(c) >= 0 ? 1 : -1003);
            Due.is("behind +, sign " + sign, report("Fl+" + c), DIGITS.indexOf(c) >= 0 ? 1 : -1003);
        }
        behind("Fl!", "");
        behind("Fl:1", DIGITS);
        behind("Fl+123", DIGITS);
    }

    /** FAULT 1, "the end, too": behind the last byte. */
    private static void theEnd() {
        String text = "Aa:12;Fl+9999;Cd!;Ee:0";
        int[] wholes = {4, 5, 10, 11, 12, 13, 17, 22};
        int[] lines = {1, 1, 2, 2, 2, 2, 3, 4};
        for (int n = 1; n <= text.length(); n++) {
            int due = -1000 - n;
            for (int i = 0; i < wholes.length; i++) {
                due = wholes[i] == n ? lines[i] : due;
            }
            Due.is("the first " + n + " of a report", report(text.substring(0, n)), due);
        }
    }

    /** "No blanks". */
    private static void noBlanks() {
        String text = "Aa:12;Fl+9999;Cd!;Ee:0";
        for (int place = 0; place <= text.length(); place++) {
            String spoilt = text.substring(0, place) + " " + text.substring(place);
            Due.is("a blank at " + place, report(spoilt), -1000 - place);
        }
    }

    /** Numbers of one to four digits; FAULT 2: a fifth digit, at it. */
    private static void digits() {
        for (char digit : DIGITS.toCharArray()) {
            for (int n = 1; n <= 6; n++) {
                String number = Due.times("" + digit, n);
                Due.is("Aa:" + number, report("Aa:" + number), n <= 4 ? 1 : -2007);
                Due.is("Aa+" + number, report("Aa+" + number), n <= 4 ? 1 : -2007);
                Due.is("Aa!;Aa:" + number + ";Aa!", report("Aa!;Aa:" + number + ";Aa!"), n <= 4 ? 3 : -2011);
            }
        }
        Due.is("what can't stand behind four", report("Aa:1234a"), -1007);
    }

    /** LINES, 20 at most; FAULT 4: a 21st LINE, at its capital, if that can stand there; 7 behind 4. */
    private static void twentyLines() {
        for (int lines = 1; lines <= 20; lines++) {
            Due.is(lines + " lines", report(Due.times("Aa!;", lines - 1) + "Aa!"), lines);
        }
        String twenty = Due.times("Aa!;", 20);
        Due.is("the end where a 21st is due", report(twenty), -1080);
        for (int sign = 0; sign < 256; sign++) {
            int due = CAPITALS.indexOf(sign) >= 0 ? -4080 : -1080;
            Due.is("a 21st line by sign " + sign, report(twenty + (char) sign), due);
            Due.is("a 20th line by sign " + sign, report(twenty.substring(4) + (char) sign), due == -4080 ? -1077 : -1076);
        }
        BeggingLetter x = Given.row(1);
        Due.is("a 21st line of a letter that is not told", Due.report(x, twenty + "Ba!"), -4080);
        Due.is("a 20th line of a letter that is not told", Due.report(x, twenty.substring(4) + "Ba!"), -7076);
        Due.is("a 21st line of a parish that is not told", Due.report(x, twenty + "Ab!"), -4080);
        Due.is("a 20th line of a parish that is not told", Due.report(x, twenty.substring(4) + "Ab!"), -7077);
    }

    /** FAULT 7: a LETTER that is not told, at it. */
    private static void untoldLetters() {
        for (int told = 0; told < 6; told++) {
            for (int k = 0; k < 6; k++) {
                BeggingLetter x = Given.parishes(12);
                x.letter(told, 0, 100);
                String line = (char) ('A' + k) + "l!";
                Due.is("letter " + k + ", told is " + told, Due.report(x, line), k == told ? 1 : -7000);
                String first = (char) ('A' + told) + "l:1;";
                Due.is("in a second line", Due.report(x, first + line), k == told ? 2 : -7005);
            }
        }
        Due.is("no matter what follows", Due.report(Given.row(1), "B"), -7000);
        Due.is("a sign that is none is no letter", Due.report(Given.row(1), "G"), -1000);
    }

    /** FAULT 7: a PARISH that is not told, at it. */
    private static void untoldParishes() {
        for (int told = 0; told < 12; told++) {
            for (int p = 0; p < 12; p++) {
                BeggingLetter x = new BeggingLetter();
                x.parish(told, 5);
                x.letter(5, told, 100);
                String line = "F" + (char) ('a' + p) + "!";
                Due.is("parish " + p + ", told is " + told, Due.report(x, line), p == told ? 1 : -7001);
                String first = "F" + (char) ('a' + told) + "+1;";
                Due.is("in a second line", Due.report(x, first + line), p == told ? 2 : -7006);
            }
        }
        Due.is("no matter what follows", Due.report(Given.row(1), "Ab"), -7001);
        Due.is("a sign that is none is no parish", Due.report(Given.row(1), "Am"), -1001);
    }

    /** "The first from the left": of two faults the one that stands first. */
    private static void firstFromTheLeft() {
        Due.is("7 ahead of 7", Due.report(Given.row(1), "Bb!"), -7000);
        Due.is("7 ahead of 1", Due.report(Given.row(1), "Bz"), -7000);
        Due.is("1 ahead of 7", Due.report(Given.row(1), "Az;Bb!"), -1001);
        Due.is("7 ahead of 2", Due.report(Given.row(1), "Ab:12345"), -7001);
        Due.is("2 ahead of 7", Due.report(Given.row(1), "Aa:12345;Ba!"), -2007);
        Due.is("2 ahead of 1", Due.report(Given.row(1), "Aa:12345z"), -2007);
        Due.is("7 ahead of 4", Due.report(Given.row(1), "Ba!;" + Due.times("Aa!;", 19) + "A"), -7000);
        Due.is("1 ahead of 4", Due.report(Given.row(1), Due.times("Aa!;", 19) + "Aa?;A"), -1078);
    }

    /** A TEXT of at most 120 bytes. */
    private static void bytes() {
        String most = Due.times("Aa:1234;", 14) + "Aa+99999";
        Due.is("120 bytes", most.length(), 120);
        Due.is("the last of 120 bytes counts", report(most), -2119);
        Due.is("119 bytes", report(most.substring(0, 119)), 15);
        Due.is("the end behind 120", report(most.substring(0, 119) + ";"), -1120);
        Due.is("a report of 120 bytes", report(Due.times("Aa:1234;", 12) + "Aa:123;Aa:123;Aa:123;Aa!"), 16);
        BeggingLetter x = Given.all();
        Due.feed(x, Due.bytes(Due.times("Aa:1;", 24) + "A"));
        Due.is("121 bytes", x.report(121), -1);
        Due.is("they stay", x.count(7), 140);
        Due.is("nothing is done", x.toldAt(0, 0), 5000);
    }

    /** ": and a number (the LOSS is KNOWN there as so much now)": 0 to 9999, wherever. */
    private static void numbersAsTold() {
        String[] numbers = {"0", "1", "9", "10", "99", "100", "999", "1000", "9998", "9999", "0000", "0009", "090"};
        int[] due = {0, 1, 9, 10, 99, 100, 999, 1000, 9998, 9999, 0, 9, 90};
        for (int i = 0; i < numbers.length; i++) {
            BeggingLetter x = Given.all();
            Due.is("a report", Due.report(x, "Fl:" + numbers[i]), 1);
            Due.is("known as " + numbers[i], x.toldAt(5, 11), due[i]);
            Due.is("known there, too", x.letterIs(5, 4), 32 + 2048);
            Due.is("read nowhere", x.letterIs(5, 5), 0);
            Due.is("nothing is given", x.letterIs(5, 2), 0);
            Due.report(x, "Ff:" + numbers[i]);
            Due.is("at home, too", x.toldAt(5, 5), due[i]);
            Due.is("its loss is as before", x.letterIs(5, 1), 5000);
        }
    }

    /** "So much is given: two thirds, rounded up, to the FUND, the rest is FARMED." */
    private static void twoThirds() {
        int[] pence = {0, 1, 2, 3, 4, 5, 6, 7, 9997, 9998, 9999};
        int[] funds = {0, 1, 2, 2, 3, 4, 4, 5, 6665, 6666, 6666};
        for (int i = 0; i < pence.length; i++) {
            BeggingLetter x = Given.all();
            Due.is("a report", Due.report(x, "Fl+" + pence[i]), 1);
            Due.is("to the fund of " + pence[i], x.letterIs(5, 2), funds[i]);
            Due.is("farmed of " + pence[i], x.count(2), pence[i] - funds[i]);
            Due.is("no fund of another", x.letterIs(4, 2), 0);
        }
    }

    /** "It is READ there": where it is KNOWN and where it is not, again and again, once at most in MONTHS. */
    private static void readThere() {
        BeggingLetter x = Given.row(2);
        Due.report(x, "Aa+0");
        Due.is("read by nothing given", x.letterIs(0, 5), 1);
        Due.is("no month reads it again", x.months(3), 1);
        Due.is("it went on, and was read there", x.letterIs(0, 5), 3);
        BeggingLetter y = Given.row(2);
        Due.report(y, "Ab+9;Ab+9");
        Due.is("read where it is not known", y.letterIs(0, 5), 2);
        Due.is("given twice", y.letterIs(0, 2), 12);
        Due.is("not known by that", y.toldAt(0, 1), -2);
        Due.is("read at home alone", y.months(2), 1);
        Due.is("known by now", y.letterIs(0, 4), 3);
    }

    /** "! (it is not KNOWN, not READ there)": there, and nowhere else. */
    private static void notKnownNotRead() {
        BeggingLetter x = Given.row(3);
        Due.report(x, "Ab:5;Ac:6;Aa+1;Ab+1;Ac+1");
        Due.is("a report", Due.report(x, "Ab!"), 1);
        Due.is("known elsewhere", x.letterIs(0, 4), 5);
        Due.is("read elsewhere", x.letterIs(0, 5), 5);
        Due.is("not known there", x.toldAt(0, 1), -2);
        Due.is("what was given stays", x.letterIs(0, 2), 3);
        Due.is("where it was neither", Due.report(x, "Ab!"), 1);
        Due.is("known elsewhere still", x.letterIs(0, 4), 5);
        Due.is("at home", Due.report(x, "Aa!"), 1);
        Due.is("its home is as before", x.letterIs(0, 0), 0);
        Due.is("known in one alone", x.letterIs(0, 4), 4);
    }

    /** "Nothing is done by a REPORT with a FAULT", whichever, however late. */
    private static void nothingIsDone() {
        String good = "Aa:7;Ab:8;Aa+90;Ab+90;";
        String[] bad = {good, good + "?", good + "Aa:12345", good + "Ba!", good + "Ac!", good + Due.times("Aa!;", 16) + "A"};
        int[] faults = {-1022, -1022, -2029, -7022, -7023, -4086};
        for (int i = 0; i < bad.length; i++) {
            BeggingLetter x = Given.row(2);
            Due.is("report " + bad[i], Due.report(x, bad[i]), faults[i]);
            Due.is("known as before", x.letterIs(0, 4), 1);
            Due.is("told as before", x.toldAt(0, 0), 100);
            Due.is("read as before", x.letterIs(0, 5), 0);
            Due.is("fund as before", x.letterIs(0, 2), 0);
            Due.is("farmed as before", x.count(2), 0);
        }
    }

    /** FUND and FARMED are 999999 at most: at it, just below it, beyond it. */
    private static void fundsAreFull() {
        BeggingLetter x = Given.all();
        String much = Due.times("Fa+9999;", 14) + "Fa+9999";
        for (int i = 0; i < 10; i++) {
            Due.report(x, much);
        }
        Due.is("fund", x.letterIs(5, 2), 999900);
        Due.report(x, "Fa+147");
        Due.is("just below", x.letterIs(5, 2), 999998);
        x.keep();
        Due.report(x, "Fa+1");
        Due.is("at it", x.letterIs(5, 2), 999999);
        Due.report(x, "Fa+0");
        Due.is("at it still", x.letterIs(5, 2), 999999);
        Due.report(x, "Fa+1");
        Due.is("not above", x.letterIs(5, 2), 999999);
        x.undo();
        Due.report(x, "Fa+2");
        Due.is("not beyond it by one", x.letterIs(5, 2), 999999);
        Due.report(x, much);
        Due.is("not beyond it by far", x.letterIs(5, 2), 999999);
        Due.is("another fund is its own", x.letterIs(4, 2), 0);
        farmedIsFull(x);
    }

    private static void farmedIsFull(BeggingLetter x) {
        String much = Due.times("Ea+9999;", 14) + "Ea+9999";
        int farmed = x.count(2);
        for (int i = 0; i < 15 && farmed + 49995 <= 999998; i++) {
            Due.report(x, much);
            farmed += 49995;
        }
        Due.is("farmed", x.count(2), farmed);
        for (int i = 0; i < 15 && farmed + 3333 <= 999998; i++) {
            Due.report(x, "Da+9999");
            farmed += 3333;
        }
        Due.report(x, "Ca+" + (999998 - farmed) * 3);
        Due.is("just below", x.count(2), 999998);
        x.keep();
        Due.report(x, "Ca+3");
        Due.is("at it", x.count(2), 999999);
        Due.report(x, "Ca+3");
        Due.is("not above", x.count(2), 999999);
        x.undo();
        Due.report(x, "Ca+6");
        Due.is("not beyond it by one", x.count(2), 999999);
        Due.report(x, "Ca+9999");
        Due.is("not beyond it by far", x.count(2), 999999);
    }
}
