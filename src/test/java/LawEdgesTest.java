/** Promise 6 at its bounds: what can stand where in THE LAW, how much of it, and its FAULTS with their places. */
final class LawEdgesTest {
    private static final String DIGITS = "0123456789";
    private static final String FACTOR = DIGITS + "[pwrkldm";
    private static final String TEST = FACTOR + "!(";
    private static final String SIGNS = "+-*/%";

    private LawEdgesTest() {
    }

    public static void main(String[] args) {
        whatCanStand();
        whatCanStandInTests();
        whatCanStandAtDepth();
        theEnd();
        noBlanks();
        digits();
        sixteenRules();
        openInOneAnother();
        notInOneAnother();
        openOfAllKinds();
        firstFromTheLeft();
        bytes();
        theOneBeforeStays();
        Due.end();
    }

    private static int law(String text) {
        return Due.law(new BeggingLetter(), text);
    }

    /** Behind a text that is no law yet: the signs that can stand there, and none else. */
    private static void after(String text, String signs) {
        after(text, signs, "");
    }

    /** The same, and the signs by which it is one RULE. */
    private static void after(String text, String signs, String last) {
        for (int sign = 0; sign < 256; sign++) {
            boolean isFit = signs.indexOf(sign) >= 0;
            int due = last.indexOf(sign) >= 0 ? 1 : isFit ? -1001 - text.length() : -1000 - text.length();
            Due.is("law " + text + ", sign " + sign, law(text + (char) sign), due);
        }
    }

    /** FAULT 1: what can't stand there. */
    private static void whatCanStand() {
        for (int sign = 0; sign < 256; sign++) {
            Due.is("a rule by sign " + sign, law("" + (char) sign), "gthx".indexOf(sign) >= 0 ? -1001 : -1000);
        }
        after("g", FACTOR);
        after("t", FACTOR);
        after("h", FACTOR);
        after("x", "(");
        after("g1", DIGITS + SIGNS + "(");
        after("g1234", DIGITS + SIGNS + "(");
        after("gp", SIGNS + "(");
        after("gm", SIGNS + "(");
        after("g[", FACTOR);
        after("g[1", DIGITS + SIGNS + "]");
        after("g[p", SIGNS + "]");
        after("g[1]", SIGNS + "(");
        after("g[[1]", SIGNS + "]");
        for (char sign : SIGNS.toCharArray()) {
            after("g1" + sign, FACTOR);
            after("g[1" + sign, FACTOR);
            after("g1(1" + sign, FACTOR);
        }
        after("g1(1=1);", "gthx");
        after("g1(1=1);g", FACTOR);
        after("g1(1=1);x", "(");
    }

    private static void whatCanStandInTests() {
        after("x(", TEST);
        after("g1(", TEST);
        after("x((", TEST);
        after("x(!", TEST);
        after("x(1=1&", TEST);
        after("x(1=1|", TEST);
        after("x(1", DIGITS + SIGNS + "<>=");
        after("x(p", SIGNS + "<>=");
        after("x([1]", SIGNS + "<>=");
        after("x([1", DIGITS + SIGNS + "]");
        after("x(!1", DIGITS + SIGNS + "<>=");
        after("x(1<", FACTOR);
        after("x(1>", FACTOR);
        after("x(1=", FACTOR);
        after("x(1=1", DIGITS + SIGNS + "&|", ")");
        after("x(1=p", SIGNS + "&|", ")");
        after("x(1=[1]", SIGNS + "&|", ")");
        after("x(!1=p", SIGNS + "&|", ")");
        after("x((1=p", SIGNS + "&|)");
        after("x((1=p)", "&|", ")");
        after("x(!(1=p)", "&|", ")");
        for (int sign = 0; sign < 256; sign++) {
            Due.is("behind a rule, sign " + sign, law("x(1=1)" + (char) sign), sign == ';' ? -1007 : -1006);
        }
    }

    /** Where six are open a seventh is FAULT 5, if it can stand there; else it is FAULT 1. */
    private static void whatCanStandAtDepth() {
        for (int sign = 0; sign < 256; sign++) {
            char c = (char) sign;
            int fit = -1008;
            int isTest = "([!".indexOf(c) >= 0 ? -5007 : (DIGITS + "pwrkldm").indexOf(c) >= 0 ? fit : -1007;
            Due.is("a test at depth six, sign " + sign, law("x((((((" + c), isTest);
            Due.is("a test behind five ! and sign " + sign, law("x(!!!!!" + c), isTest);
            int isFactor = c == '[' ? -5009 : (DIGITS + "pwrkldm").indexOf(c) >= 0 ? -1010 : -1009;
            Due.is("a factor at depth six, sign " + sign, law("x((((((1=" + c), isFactor);
            int isSum = c == '[' ? -5007 : (DIGITS + "pwrkldm").indexOf(c) >= 0 ? fit : -1007;
            Due.is("a sum at depth six, sign " + sign, law("g[[[[[[" + c), isSum);
        }
    }

    /** FAULT 1, "the end, too": a law that ends before it is whole has it behind its last byte. */
    private static void theEnd() {
        String text = "g1+[w]*23(!(p=1|2<k)&r>0);x(1=1);h5%2(m=[3])";
        for (int n = 1; n < text.length(); n++) {
            boolean isWhole = n == text.indexOf(';') || n == text.lastIndexOf(';');
            int due = !isWhole ? -1000 - n : n == text.indexOf(';') ? 1 : 2;
            Due.is("the first " + n + " of a law", law(text.substring(0, n)), due);
        }
        Due.is("all of it", law(text), 3);
    }

    /** "No blanks": one in any place of a law is what can't stand there. */
    private static void noBlanks() {
        String text = "g1+[w]*23(!(p=1|2<k)&r>0);x(1=1);h5%2(m=[3])";
        for (int place = 0; place <= text.length(); place++) {
            String spoilt = text.substring(0, place) + " " + text.substring(place);
            Due.is("a blank at " + place, law(spoilt), -1000 - place);
        }
    }

    /** A number of one to five digits; FAULT 2: a sixth digit, at it. */
    private static void digits() {
        for (char digit : DIGITS.toCharArray()) {
            for (int n = 1; n <= 8; n++) {
                String number = Due.times("" + digit, n);
                Due.is("g" + number, law("g" + number + "(1=1)"), n <= 5 ? 1 : -2006);
                Due.is("1=" + number, law("x(1=" + number + ")"), n <= 5 ? 1 : -2009);
                Due.is(number + "=1", law("x(" + number + "=1)"), n <= 5 ? 1 : -2007);
                Due.is("[" + number + "]", law("g[" + number + "](1=1)"), n <= 5 ? 1 : -2007);
            }
            Due.is("a sixth digit at the end", law("g00000" + digit), -2006);
        }
        Due.is("five digits twice", law("g12345+67890(12345=67890)"), 1);
        Due.is("what can't stand behind five", law("g12345p(1=1)"), -1006);
        Due.is("the end behind five", law("g12345"), -1006);
    }

    /** RULES, 16 at most; FAULT 4: a 17th RULE, at its letter, if that can stand there. */
    private static void sixteenRules() {
        for (int rules = 1; rules <= 16; rules++) {
            String text = Due.times("x(1=1);", rules - 1) + "x(1=1)";
            Due.is(rules + " rules", law(text), rules);
            BeggingLetter x = new BeggingLetter();
            Due.law(x, text);
            Due.is("rules of the law", x.count(6), rules);
        }
        String sixteen = Due.times("x(1=1);", 16);
        Due.is("the end where a 17th is due", law(sixteen), -1112);
        for (int sign = 0; sign < 256; sign++) {
            int due = "gthx".indexOf(sign) >= 0 ? -4112 : -1112;
            Due.is("a 17th rule by sign " + sign, law(sixteen + (char) sign), due);
            Due.is("a 16th rule by sign " + sign, law(sixteen.substring(7) + (char) sign), due == -4112 ? -1106 : -1105);
        }
        Due.is("a whole 17th", law(sixteen + "g1(1=1)"), -4112);
        Due.is("a 17th with a fault of its own", law(sixteen + "g123456"), -4112);
        Due.is("a fault ahead of the 17th", law(Due.times("x(1=1);", 15) + "x(1=);g1(1=1)"), -1109);
    }

    /** FAULT 5: six of ( [ ! may be open in one another, a seventh is a FAULT at it; the ( of the RULE counts. */
    private static void openInOneAnother() {
        for (int more = 0; more <= 7; more++) {
            String open = Due.times("(", more);
            String shut = Due.times(")", more);
            Due.is(more + " (", law("x(" + open + "1=1" + shut + ")"), more <= 5 ? 1 : -5007);
            Due.is(more + " !", law("x(" + Due.times("!", more) + "1=1)"), more <= 5 ? 1 : -5007);
            String sum = Due.times("[", more) + "1" + Due.times("]", more);
            Due.is(more + " [ in a test", law("x(" + sum + "=1)"), more <= 5 ? 1 : -5007);
            Due.is(more + " [ behind =", law("x(1=" + sum + ")"), more <= 5 ? 1 : -5009);
            Due.is(more + " [ in the E of a rule", law("g" + sum + "(1=1)"), more <= 6 ? 1 : -5007);
        }
        Due.is("six in the E, and six in the C", law("g[[[[[[1]]]]]]((((((1=1))))))"), 1);
        Due.is("six in the E, and seven in the C", law("g[[[[[[1]]]]]](((((((1=1)))))))"), -5020);
        Due.is("six in the C of each rule", law("x((((((1=1))))));x(!!!!!1=1)"), 1 + 1);
    }

    /** What is shut is open no more: a ! till its TEST ends, a ( and a [ till the one that shuts it. */
    private static void notInOneAnother() {
        Due.is("! side by side", law("x(!!!!!1=1&!!!!!1=1|!!!!!1=1)"), 1);
        Due.is("( side by side", law("x(((((1=1)&(1=1))|(1=1&(1=1)))))"), 1);
        Due.is("[ side by side", law("x([[[[[1]+[1]]]]]=[[[[[1]]]]])"), 1);
        Due.is("a ! ends with its test", law("x((((!1=1&!1=1))))"), 1);
        Due.is("a ! ends with its (C)", law("x((((!(1=1)&!(1=1)))))"), 1);
        Due.is("a ! is open in its (C)", law("x((((!(1=1&!1=1)))))"), -5011);
        Due.is("a ! is open on both sides of its test", law("x(!!!!!1=[1])"), -5009);
        Due.is("a [ is shut behind it", law("x(!!!![1]=[1])"), 1);
    }

    /** All kinds count alike: each way to open seven, at the seventh. */
    private static void openOfAllKinds() {
        for (int kinds = 0; kinds < 1 << 5; kinds++) {
            StringBuilder open = new StringBuilder("x(");
            StringBuilder shut = new StringBuilder();
            for (int i = 0; i < 5; i++) {
                boolean isNot = (kinds >> i & 1) == 1;
                open.append(isNot ? '!' : '(');
                shut.append(isNot ? "" : ")");
            }
            Due.is(open + "1=1" + shut, law(open + "1=1" + shut + ")"), 1);
            for (String seventh : new String[] {"!1=1", "(1=1)", "[1]=1"}) {
                Due.is(open + seventh, law(open + seventh + shut + ")"), -5007);
            }
            Due.is(open + "1=[1]", law(open + "1=[1]" + shut + ")"), -5009);
        }
        for (int inner = 0; inner <= 5; inner++) {
            String open = Due.times("!", 5 - inner) + Due.times("[", inner);
            Due.is(open, law("x(" + open + "1" + Due.times("]", inner) + "=1)"), 1);
            Due.is(open + "[", law("x(" + open + "[1"), -5007);
        }
    }

    /** "The first from the left": of two faults the one that stands first. */
    private static void firstFromTheLeft() {
        Due.is("1 ahead of 2", law("gz+123456(1=1)"), -1001);
        Due.is("2 ahead of 1", law("g123456z"), -2006);
        Due.is("2 ahead of 5", law("g123456((((((("), -2006);
        Due.is("5 ahead of 2", law("g[[[[[[[123456"), -5007);
        Due.is("5 ahead of 1", law("x(((((((z"), -5007);
        Due.is("1 ahead of 5", law("xz((((((("), -1001);
        Due.is("5 ahead of 4", law(Due.times("x(1=1);", 15) + "x(((((((1=1)))))));x"), -5112);
        Due.is("4 ahead of 5", law(Due.times("x(1=1);", 16) + "x((((((("), -4112);
    }

    /** A TEXT of at most 240 bytes. */
    private static void bytes() {
        String most = "g12(" + Due.times("1=1&", 58) + "0=0)";
        Due.is("240 bytes", most.length(), 240);
        Due.is("a law of 240 bytes", law(most), 1);
        Due.is("the last byte counts", law(most.substring(0, 239) + "]"), -1239);
        Due.is("the end behind the last byte", law(most.substring(0, 239) + "&"), -1240);
        Due.is("239 bytes", law("g1(" + Due.times("1=1&", 58) + "0=0)"), 1);
        BeggingLetter x = new BeggingLetter();
        Due.law(x, "h1(1=1);h2(1=1)");
        Due.feed(x, Due.bytes("g123(" + Due.times("1=1&", 58) + "0=0)"));
        Due.is("241 bytes", x.law(241), -1);
        Due.is("they stay", x.count(7), 260);
        Due.is("and so does the law", x.count(6), 2);
        Due.is("240 of them are a fault", x.law(240), -1240);
    }

    /** "A FAULT: ... (the one before stays)", by each FAULT; without a FAULT the law comes in its place. */
    private static void theOneBeforeStays() {
        String[] spoilt = {"g9(1=1);", "g9(1=1);g123456", "g9(1=1);x(((((((1=1", Due.times("g9(1=1);", 17), "z"};
        int[] faults = {-1008, -2014, -5015, -4128, -1000};
        for (int i = 0; i < spoilt.length; i++) {
            BeggingLetter x = Given.row(2);
            Due.is("none at first", x.count(6), 0);
            Due.is("a fault where none was", Due.law(x, spoilt[i]), faults[i]);
            Due.is("none still", x.count(6), 0);
            Due.is("nothing is given", x.bestMonth(0, 0, 1), 0);
            Due.is("a law", Due.law(x, "g7(1=1);x(1=1)"), 2);
            Due.is("a fault", Due.law(x, spoilt[i]), faults[i]);
            Due.is("its rules stay", x.count(6), 2);
            Due.is("its gift stays", x.bestMonth(0, 0, 1), 7);
            Due.is("its x stays", x.spreads(0, 1), -2);
            Due.is("a law in its place", Due.law(x, "g8(1=1)"), 1);
            Due.is("one rule", x.count(6), 1);
            Due.is("another gift", x.bestMonth(0, 0, 1), 8);
            Due.is("no x", x.spreads(0, 1), 1);
        }
    }
}
