import java.util.function.IntPredicate;

/** What the tests share: answers that are due, and texts for the tape. */
final class Due {
    private static int asked = 0;
    private static int wrong = 0;

    private Due() {
    }

    static void is(String what, long got, long due) {
        asked++;
        if (got != due) {
            wrong++;
            System.out.println(what + " answered " + got + ", due is " + due);
        }
    }

    static void is(String what, boolean got, boolean due) {
        is(what, got ? 1 : 0, due ? 1 : 0);
    }

    static void holds(String what, boolean got) {
        is(what, got, true);
    }

    /** At both bounds, just within, just beyond and far beyond them: what is within is taken, nothing else. */
    static void bounds(String what, int least, int most, IntPredicate isTaken) {
        int[] all = {Integer.MIN_VALUE, least - 1, least, least + 1, most - 1, most, most + 1, Integer.MAX_VALUE};
        for (int n : all) {
            is(what + " " + n + " is taken", isTaken.test(n), n >= least && n <= most);
        }
    }

    /** Ends the test: with 1 if an answer was not the one that is due. */
    static void end() {
        System.out.println(asked + " answers, " + wrong + " not as due");
        if (wrong != 0 || asked == 0) {
            System.exit(1);
        }
    }

    static int[] bytes(String text) {
        int[] bytes = new int[text.length()];
        for (int i = 0; i < bytes.length; i++) {
            bytes[i] = text.charAt(i) & 255;
        }
        return bytes;
    }

    /** Feeds bytes, and as many of 0 behind them as make up twenties. */
    static int feed(BeggingLetter x, int... bytes) {
        int size = x.count(7);
        int[] words = new int[(bytes.length + 19) / 20 * 5];
        for (int i = 0; i < bytes.length; i++) {
            words[i / 4] |= (bytes[i] & 255) << 24 - i % 4 * 8;
        }
        for (int i = 0; i < words.length; i += 5) {
            size = x.feed(words[i], words[i + 1], words[i + 2], words[i + 3], words[i + 4]);
        }
        return size;
    }

    static int law(BeggingLetter x, String text) {
        feed(x, bytes(text));
        return x.law(text.length());
    }

    static int report(BeggingLetter x, String text) {
        feed(x, bytes(text));
        return x.report(text.length());
    }

    static boolean text(BeggingLetter x, int k, String text) {
        feed(x, bytes(text));
        return x.text(k, text.length());
    }

    static String times(String text, int n) {
        return text.repeat(n);
    }
}
