/** Promises 5, 31, 32: the tape, and what each call leaves of it. */
final class TapeTest {
    private TapeTest() {
    }

    public static void main(String[] args) {
        order();
        full();
        staysOrGoes();
        check();
        Due.end();
    }

    /** The highest byte of each int comes first, the first int first. */
    private static void order() {
        BeggingLetter x = new BeggingLetter();
        for (int p = 0; p < 12; p++) {
            x.parish(p, p + 1);
        }
        Due.is("feed", x.feed(0x01020304, 0x05060708, 0x090a0b0c, 0, 0), 20);
        Due.is("bytes", x.count(7), 20);
        Due.is("check", x.check(12), -1);
        Due.is("empty", x.count(7), 0);
        x.feed(-1, -1, -1, -1, -1);
        Due.is("bytes are 0 to 255", x.bids(1, 255, 1), 255);
        x.parish(0, 0x61);
        x.feed(0x61000000, 0, 0, 0, 0);
        x.feed(0x62000000, 0, 0, 0, 0);
        Due.is("the first bytes are those fed first", x.check(1), -1);
    }

    private static void full() {
        BeggingLetter x = new BeggingLetter();
        for (int size = 20; size <= 260; size += 20) {
            Due.is("feed", x.feed(1, 2, 3, 4, 5), size);
        }
        Due.is("no room", x.feed(1, 2, 3, 4, 5), -1);
        Due.is("as full as before", x.count(7), 260);
        Due.is("241 bytes are no law", x.law(241), -1);
        Due.is("still full", x.count(7), 260);
        Due.is("a law with a fault", x.law(240), -1000);
        Due.is("all of it is gone", x.count(7), 0);
        Due.is("room again", x.feed(1, 2, 3, 4, 5), 20);
    }

    private static BeggingLetter withTape() {
        BeggingLetter x = new BeggingLetter();
        x.parish(0, 1);
        x.letter(0, 0, 10);
        x.feed(0x01010101, 0x01010101, 0x01010101, 0x01010101, 0x01010101);
        return x;
    }

    private static void left(String call, BeggingLetter x, long got, long due, int left) {
        Due.is(call, got, due);
        Due.is(call + " leaves", x.count(7), left);
    }

    private static void staysOrGoes() {
        for (int n : new int[] {-1, 0, 21, 41, 121, 241, Integer.MIN_VALUE, Integer.MAX_VALUE}) {
            BeggingLetter x = withTape();
            left("law " + n, x, x.law(n), -1, 20);
            left("report " + n, x, x.report(n), -1, 20);
            left("text " + n, x, x.text(0, n) ? 1 : 0, 0, 20);
            left("nearest " + n, x, x.nearest(n, 0), -1, 20);
            left("bids " + n, x, x.bids(n, 0, 0), -1, 20);
            left("divided " + n, x, x.divided(n, 0, 0, 0), -1, 20);
            left("coins " + n, x, x.coins(n, 0, 0), -1, 20);
            if (n != 0) {
                left("check " + n, x, x.check(n), -2, 20);
            }
        }
        BeggingLetter x = withTape();
        left("text 6", x, x.text(6, 1) ? 1 : 0, 0, 20);
        left("nearest what", x, x.nearest(1, 2), -1, 20);
        left("bids what", x, x.bids(1, 0, 2), -1, 20);
        left("bids reserve", x, x.bids(1, 256, 0), -1, 20);
        left("divided what", x, x.divided(1, 0, 0, 1), -1, 20);
        left("divided rule", x, x.divided(1, 0, 3, 0), -1, 20);
        left("divided amount", x, x.divided(1, 10000, 0, 0), -1, 20);
        left("coins amount", x, x.coins(1, 1000, 0), -1, 20);
        left("coins what", x, x.coins(1, 1, 3), -1, 20);
        left("check 13", x, x.check(13), -2, 20);
        left("report fault", x, x.report(1), -1000, 0);
        x = withTape();
        left("law fault", x, x.law(1), -1000, 0);
        x = withTape();
        left("nearest without texts", x, x.nearest(1, 0), -2, 0);
        x = withTape();
        left("bids of nobody", x, x.bids(1, 9, 0), -2, 0);
        x.feed(0xffff0000, 0, 0, 0, 0);
        left("divided, a loss too great", x, x.divided(1, 0, 0, 0), -2, 0);
        x.feed(0, 0, 0, 0, 0);
        left("coins of 0", x, x.coins(1, 0, 0), -3, 0);
        x = withTape();
        left("check 0", x, x.check(0), -1, 0);
        x = withTape();
        left("text", x, x.text(0, 20) ? 1 : 0, 1, 0);
        left("check of nothing", x, x.check(1), -2, 0);
        left("check 0 of nothing", x, x.check(0), -1, 0);
    }

    private static void check() {
        BeggingLetter x = new BeggingLetter();
        x.parish(1, 50);
        x.parish(2, 99);
        Due.feed(x, 0, 50, 99, 0);
        Due.is("right", x.check(12), -1);
        Due.feed(x, 0, 50, 98, 1);
        Due.is("the first that is not so", x.check(12), 2);
        Due.feed(x, 0, 50, 98);
        Due.is("right so far", x.check(2), -1);
        Due.feed(x, 1, 50, 99);
        Due.is("one that is not told", x.check(1), 0);
        Due.feed(x, 0, 50, 99, 0, 0, 0, 0, 0, 0, 0, 0, 7);
        Due.is("the last", x.check(12), 11);
    }
}
