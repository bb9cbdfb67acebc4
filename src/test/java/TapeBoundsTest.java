import java.util.function.IntPredicate;

/** Promises 5 to 8, 21, 24 to 26, 31: how many bytes a call takes of the tape, and what it leaves. */
final class TapeBoundsTest {
    private static final int FULL = 260;

    /** A call that reads n bytes (or twice n) of the tape. */
    private interface Reads {
        int call(BeggingLetter x, int n);
    }

    private TapeBoundsTest() {
    }

    public static void main(String[] args) {
        feed();
        fedBytes();
        law();
        report();
        text();
        nearest();
        bids();
        divided();
        coins();
        check();
        emptyAfterAnyAnswer();
        firstBytesAlone();
        Due.end();
    }

    /** Promise 5: twenty bytes come behind the tape: how many it has; NONE if more than 260. */
    private static void feed() {
        BeggingLetter x = new BeggingLetter();
        Due.is("none at first", x.count(7), 0);
        for (int size = 20; size <= FULL; size += 20) {
            Due.is("fed", x.feed(0, 0, 0, 0, 0), size);
            Due.is("bytes of the tape", x.count(7), size);
        }
        for (int times = 0; times < 2; times++) {
            Due.is("more than 260", x.feed(1, 1, 1, 1, 1), -1);
            Due.is("bytes of a full tape", x.count(7), FULL);
        }
        Due.is("emptied", x.check(0), -1);
        Due.is("room again", x.feed(0, 0, 0, 0, 0), 20);
    }

    /** Promise 5: the highest byte of each int first: each of twenty stands in its place. */
    private static void fedBytes() {
        for (int place = 0; place < 20; place++) {
            int[] words = new int[5];
            words[place / 4] = 255 << 24 - place % 4 * 8;
            BeggingLetter x = new BeggingLetter();
            x.feed(words[0], words[1], words[2], words[3], words[4]);
            x.text(0, 20);
            x.feed(0, 0, 0, 0, 0);
            x.text(1, 20);
            Due.is("the byte at place " + place, x.misspelt(0, 1), place);
            Due.is("no other one", x.far(0, 1), 1);
        }
    }

    /** n from least to most is taken of a full tape, and all of it is empty then; else the tape stays. */
    private static void taken(String name, int least, int most, int refusal, Reads reads) {
        IntPredicate isTaken = n -> {
            BeggingLetter x = Given.tape(FULL, 1);
            boolean isAnswer = reads.call(x, n) != refusal;
            Due.is(name + " " + n + " leaves", x.count(7), isAnswer ? 0 : FULL);
            return isAnswer;
        };
        Due.bounds(name, least, most, isTaken);
    }

    /** With a tape of size bytes n is taken, but n + 1 is not: it has not so many, and stays. */
    private static void hasNotSoMany(String name, int size, int n, int refusal, Reads reads) {
        BeggingLetter x = Given.tape(size, 1);
        Due.is(name + " " + (n + 1) + " of " + size, reads.call(x, n + 1), refusal);
        Due.is(name + " leaves all", x.count(7), size);
        Due.holds(name + " " + n + " of " + size, n == 0 || reads.call(x, n) != refusal);
        Due.is(name + " leaves nothing", x.count(7), 0);
        Due.is(name + " 1 of none", reads.call(x, 1), refusal);
        Due.is(name + " leaves nothing still", x.count(7), 0);
    }

    /** Promise 6: 1 to 240; NONE: no such n, it has not so many (the tape stays). */
    private static void law() {
        taken("law", 1, 240, -1, BeggingLetter::law);
        hasNotSoMany("law", 20, 20, -1, BeggingLetter::law);
        hasNotSoMany("law", 220, 220, -1, BeggingLetter::law);
        hasNotSoMany("law", 0, 0, -1, BeggingLetter::law);
    }

    /** Promise 7: 1 to 120; NONE: as above. */
    private static void report() {
        taken("report", 1, 120, -1, BeggingLetter::report);
        hasNotSoMany("report", 20, 20, -1, BeggingLetter::report);
        hasNotSoMany("report", 100, 100, -1, BeggingLetter::report);
        hasNotSoMany("report", 0, 0, -1, BeggingLetter::report);
    }

    /** Promise 8: k 0 to 5, told or not, 1 to 40; false: no such ones, it has not so many. */
    private static void text() {
        for (int k = 0; k < 6; k++) {
            int letter = k;
            taken("text of " + k, 1, 40, 0, (x, n) -> x.text(letter, n) ? 1 : 0);
            hasNotSoMany("text", 20, 20, 0, (x, n) -> x.text(letter, n) ? 1 : 0);
            hasNotSoMany("text", 0, 0, 0, (x, n) -> x.text(letter, n) ? 1 : 0);
        }
        taken("text's letter", 0, 5, 0, (x, k) -> x.text(k, 1) ? 1 : 0);
        taken("text's letter", 0, 5, 0, (x, k) -> x.text(k, 40) ? 1 : 0);
    }

    /** Promise 21: 1 to 40, what 0 or 1; NONE: no such ones, it has not so many. */
    private static void nearest() {
        for (int what = 0; what < 2; what++) {
            int asked = what;
            taken("nearest", 1, 40, -1, (x, n) -> x.nearest(n, asked));
            hasNotSoMany("nearest", 20, 20, -1, (x, n) -> x.nearest(n, asked));
            hasNotSoMany("nearest", 0, 0, -1, (x, n) -> x.nearest(n, asked));
        }
        taken("nearest what", 0, 1, -1, (x, what) -> x.nearest(1, what));
    }

    /** Promise 24: n 1 to 12, a reserve of 0 to 255, what 0 or 1; NONE: no such ones. */
    private static void bids() {
        taken("bids", 1, 12, -1, (x, n) -> x.bids(n, 0, 0));
        taken("reserve", 0, 255, -1, (x, reserve) -> x.bids(1, reserve, 1));
        taken("bids what", 0, 1, -1, (x, what) -> x.bids(1, 1, what));
        hasNotSoMany("bids", 0, 0, -1, (x, n) -> x.bids(n, 0, 0));
    }

    /** Promise 25: n 1 to 8, an amount of 0 to 9999, RULE 0 to 2, what 0 to n - 1; NONE: no such ones. */
    private static void divided() {
        taken("divided", 1, 8, -1, (x, n) -> x.divided(n, 5, 0, 0));
        taken("amount", 0, 9999, -1, (x, amount) -> x.divided(8, amount, 2, 7));
        taken("rule", 0, 2, -1, (x, rule) -> x.divided(8, 5, rule, 7));
        for (int n = 1; n <= 8; n++) {
            int losers = n;
            taken("place of " + n, 0, n - 1, -1, (x, what) -> x.divided(losers, 5, 0, what));
        }
        hasNotSoMany("divided", 0, 0, -1, (x, n) -> x.divided(n, 5, 0, 0));
        for (int n : new int[] {1 << 30, 1 << 31, (1 << 30) + 1, (1 << 31) + 1}) {
            BeggingLetter x = Given.tape(FULL, 1);
            Due.is("twice " + n + " is no small number", x.divided(n, 5, 0, 0), -1);
            Due.is("all of it is left", x.count(7), FULL);
        }
    }

    /** Promise 26: n 1 to 6, an amount of 0 to 999, what 0 to 2; NONE: no such ones. */
    private static void coins() {
        taken("coins", 1, 6, -1, (x, n) -> x.coins(n, 5, 0));
        taken("amount", 0, 999, -1, (x, amount) -> x.coins(6, amount, 1));
        taken("coins what", 0, 2, -1, (x, what) -> x.coins(6, 5, what));
        hasNotSoMany("coins", 0, 0, -1, (x, n) -> x.coins(n, 5, 0));
    }

    /** Promise 31: 0 to 12; -2: no such n, it has not so many (the tape stays). */
    private static void check() {
        taken("check", 0, 12, -2, BeggingLetter::check);
        BeggingLetter x = new BeggingLetter();
        Due.is("check 0 of none is right", x.check(0), -1);
        Due.is("check 1 of none", x.check(1), -2);
        Due.is("check 12 of none", x.check(12), -2);
    }

    private static void empties(String name, int[] bytes, int due, Reads reads) {
        BeggingLetter x = new BeggingLetter();
        Due.feed(x, bytes);
        Due.is(name, reads.call(x, bytes.length), due);
        Due.is(name + " leaves nothing", x.count(7), 0);
    }

    /** "Empty then": whatever the answer is, but for NONE (of check: -2). */
    private static void emptyAfterAnyAnswer() {
        empties("a law", Due.bytes("x(1=1)"), 1, BeggingLetter::law);
        empties("a law's fault 1", Due.bytes("x(1=1"), -1005, BeggingLetter::law);
        empties("a law's fault 2", Due.bytes("g123456"), -2006, BeggingLetter::law);
        empties("a law's fault 5", Due.bytes("x((((((("), -5007, BeggingLetter::law);
        empties("a law's fault 4", Due.bytes(Due.times("x(1=1);", 17)), -4112, BeggingLetter::law);
        empties("a report's fault 1", Due.bytes("a"), -1000, BeggingLetter::report);
        empties("a report's fault 7", Due.bytes("Aa!"), -7000, BeggingLetter::report);
        empties("nearest, none having a text", Due.bytes("a"), -2, (x, n) -> x.nearest(n, 0));
        empties("nobody's bid", new int[] {4, 4}, -2, (x, n) -> x.bids(n, 5, 0));
        empties("a loss above 9999", new int[] {39, 16}, -2, (x, n) -> x.divided(1, 5, 0, 0));
        empties("what can't be paid", new int[] {4}, -2, (x, n) -> x.coins(n, 5, 0));
        empties("what does not come out", new int[] {4}, -2, (x, n) -> x.coins(n, 5, 2));
        empties("a coin of 0", new int[] {0}, -3, (x, n) -> x.coins(n, 5, 0));
        empties("what is not so", new int[] {1}, 0, BeggingLetter::check);
        empties("what is right", new int[] {0}, -1, BeggingLetter::check);
    }

    /** The first n bytes are read, the one behind them is not. */
    private static void firstBytesAlone() {
        BeggingLetter x = Given.all();
        Due.feed(x, Due.bytes("x(1=1)0"));
        Due.is("a law of 6", x.law(6), 1);
        Due.feed(x, Due.bytes("Aa:12345"));
        Due.is("a report of 7", x.report(7), 1);
        Due.is("1234", x.toldAt(0, 0), 1234);
        Due.feed(x, Due.bytes("abcd"));
        x.text(0, 3);
        Due.is("a text of 3", x.count(10), 3);
        Due.feed(x, Due.bytes("abcx"));
        Due.is("nearest to 3", x.nearest(3, 1), 0);
        Due.feed(x, 5, 9);
        Due.is("a bid of 1", x.bids(1, 0, 0), 0);
        Due.feed(x, 0, 9, 255, 255);
        Due.is("divided by 1", x.divided(1, 9999, 0, 0), 9);
        Due.feed(x, 5, 1, 0);
        Due.is("a coin of 1", x.coins(1, 6, 0), -2);
        Due.feed(x, 10, 11, 12, 99);
        Due.is("check 3", x.check(3), -1);
    }
}
