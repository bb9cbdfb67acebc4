import java.util.Random;

/** Random runs of calls of all promises, each answered by the class and by the plain model. */
final class ModelTest {
    private static final int RUNS = 1500;
    /** With the looks at the end no object is called more than 512 times. */
    private static final int CALLS = 350;

    private final Random random;
    private final BeggingLetter x = new BeggingLetter();
    private final Model model = new Model();
    private final int run;
    private int calls;

    private ModelTest(int run) {
        this.run = run;
        random = new Random(run);
    }

    public static void main(String[] args) {
        int runs = args.length > 0 ? Integer.parseInt(args[0]) : RUNS;
        for (int run = 0; run < runs; run++) {
            new ModelTest(run).go();
        }
        Due.end();
    }

    private void go() {
        int parishes = 3 + random.nextInt(10);
        for (int p = 0; p < parishes; p++) {
            parish(p, random.nextInt(100));
        }
        for (int i = random.nextInt(3) * 20; i > 0; i--) {
            road(random.nextInt(parishes), random.nextInt(parishes), 1 + random.nextInt(9));
        }
        for (int k = random.nextInt(7) - 1; k >= 0; k--) {
            letter(k, random.nextInt(parishes), 100 + random.nextInt(900));
        }
        for (int i = 0; i < CALLS && calls < CALLS; i++) {
            call();
        }
        for (int k = 0; k < 6; k++) {
            for (int what = 0; what < 6; what++) {
                same("letterIs", x.letterIs(k, what), model.letterIs(k, what));
            }
            for (int p = 0; p < 12; p++) {
                same("toldAt", x.toldAt(k, p), model.toldAt(k, p));
            }
        }
    }

    private void same(String call, int got, int due) {
        calls++;
        Due.is("run " + run + ": " + call, got, due);
    }

    private void same(String call, boolean got, boolean due) {
        calls++;
        Due.is("run " + run + ": " + call, got, due);
    }

    /** Within 0 and most, seldom one beyond. */
    private int upTo(int most) {
        int wild = random.nextInt(60);
        return wild == 0 ? -1 : wild == 1 ? most + 1 : random.nextInt(most + 1);
    }

    private int what(int... all) {
        return random.nextInt(30) == 0 ? random.nextInt(120) - 5 : all[random.nextInt(all.length)];
    }

    private int told(int what, int most) {
        calls++;
        int bits = random.nextInt(1 << (what == 3 ? 12 : 6)) & x.count(what);
        while (Integer.bitCount(bits) > most && random.nextInt(20) != 0) {
            bits &= bits - 1;
        }
        return bits;
    }

    private void call() {
        switch (random.nextInt(34)) {
            case 0 -> parish(upTo(11), upTo(99));
            case 1, 2, 3, 4 -> road(upTo(11), upTo(11), random.nextInt(4) == 0 ? upTo(99) : random.nextInt(6));
            case 5, 6 -> letter(upTo(5), upTo(11), random.nextInt(3) == 0 ? 1 + upTo(9998) : 1 + random.nextInt(200));
            case 7, 8 -> law(new Wording(random).law());
            case 9, 10 -> report(new Wording(random).report());
            case 11, 12 -> text(upTo(5));
            case 13, 14 -> months(random.nextInt(5) == 0 ? upTo(60) : 1 + random.nextInt(3));
            case 15 -> tried(random.nextInt(5) == 0 ? upTo(60) : 1 + random.nextInt(5), what(0, 1, 2, 3, 10, 11, 12, 13, 14, 15));
            case 16 -> is(upTo(11), upTo(5));
            case 17, 18 -> spreads(upTo(5), what(100, 101, 102, 0, 1, 2, 3, 4, 5, 6, 7, 8));
            case 19 -> miles(upTo(11), upTo(11));
            case 20 -> round(upTo(11), told(3, 6), what(100, 0, 1, 2, 3));
            case 21 -> readsMost(upTo(11), told(4, 5), what(100, 0, 1, 2, 3));
            case 22 -> bestMonth(upTo(11), upTo(5), upTo(1));
            case 23, 24 -> tales(upTo(5), upTo(2));
            case 25 -> copies(upTo(5), upTo(5));
            case 26 -> nearest(upTo(1));
            case 27 -> bids(upTo(255), upTo(1));
            case 28 -> divided(upTo(2));
            case 29 -> coins(upTo(2));
            case 30 -> lent(upTo(5), upTo(60), upTo(10));
            case 31 -> seedKeepUndo(random.nextInt(4));
            case 32 -> check(upTo(12));
            default -> count(upTo(16));
        }
    }

    private void parish(int p, int wealth) {
        same("parish " + p + " " + wealth, x.parish(p, wealth), model.parish(p, wealth));
    }

    private void road(int p, int q, int miles) {
        same("road", x.road(p, q, miles), model.road(p, q, miles));
    }

    private void letter(int k, int home, int loss) {
        same("letter", x.letter(k, home, loss), model.letter(k, home, loss));
    }

    private void feed(int... bytes) {
        int[] words = new int[(bytes.length + 19) / 20 * 5];
        for (int i = 0; i < bytes.length; i++) {
            words[i / 4] |= bytes[i] << 24 - i % 4 * 8;
        }
        for (int i = 0; i < words.length; i += 5) {
            same("feed", x.feed(words[i], words[i + 1], words[i + 2], words[i + 3], words[i + 4]),
                model.feed(words[i], words[i + 1], words[i + 2], words[i + 3], words[i + 4]));
        }
    }

    private void law(String text) {
        feed(Due.bytes(text));
        same("law " + text, x.law(text.length()), model.law(text.length()));
    }

    private void report(String text) {
        feed(Due.bytes(text));
        same("report " + text, x.report(text.length()), model.report(text.length()));
    }

    private int[] someBytes(int n, int kinds) {
        int[] bytes = new int[n];
        for (int i = 0; i < n; i++) {
            bytes[i] = random.nextInt(kinds);
        }
        return bytes;
    }

    private void text(int k) {
        int n = 1 + random.nextInt(random.nextBoolean() ? 40 : 8);
        feed(someBytes(n, random.nextBoolean() ? 3 : 256));
        same("text", x.text(k, n), model.text(k, n));
    }

    private void months(int n) {
        same("months " + n, x.months(n), model.months(n));
        count(8);
        count(2);
        count(1);
    }

    private void tried(int n, int what) {
        same("tried " + n + " " + what, x.tried(n, what), model.tried(n, what));
    }

    private void is(int one, int what) {
        same("parishIs", x.parishIs(one, what), model.parishIs(one, what));
        same("letterIs", x.letterIs(one, what), model.letterIs(one, what));
        same("toldAt", x.toldAt(what, one), model.toldAt(what, one));
    }

    private void spreads(int k, int what) {
        same("spreads " + k + " " + what, x.spreads(k, what), model.spreads(k, what));
    }

    private void miles(int p, int q) {
        same("miles", x.miles(p, q), model.miles(p, q));
    }

    private void round(int from, int parishes, int what) {
        same("round", x.round(from, parishes, what), model.round(from, parishes, what));
    }

    private void readsMost(int p, int letters, int what) {
        same("readsMost", x.readsMost(p, letters, what), model.readsMost(p, letters, what));
    }

    private void bestMonth(int p, int k, int what) {
        same("bestMonth", x.bestMonth(p, k, what), model.bestMonth(p, k, what));
    }

    private void tales(int k, int what) {
        same("tales", x.tales(k, what), model.tales(k, what));
    }

    private void copies(int k, int j) {
        same("far", x.far(k, j), model.far(k, j));
        same("misspelt", x.misspelt(k, j), model.misspelt(k, j));
        same("fromWhom", x.fromWhom(), model.fromWhom());
    }

    private void nearest(int what) {
        int n = random.nextInt(42);
        feed(someBytes(Math.min(n, 40), 3));
        same("nearest", x.nearest(n, what), model.nearest(n, what));
    }

    private void bids(int reserve, int what) {
        int n = random.nextInt(14);
        feed(someBytes(n, random.nextBoolean() ? 256 : 4));
        int low = random.nextBoolean() ? reserve : Math.min(reserve, 3);
        same("bids", x.bids(n, low, what), model.bids(n, low, what));
    }

    private void divided(int rule) {
        int n = random.nextInt(10);
        int most = random.nextInt(40) == 0 ? 256 : 40;
        int[] bytes = someBytes(2 * n, most);
        boolean areSmall = random.nextBoolean();
        for (int i = 0; i < 2 * n; i += 2) {
            bytes[i] = areSmall ? 0 : bytes[i];
        }
        feed(bytes);
        int amount = areSmall ? random.nextInt(200) : upTo(9999);
        int what = upTo(Math.max(0, n - 1));
        same("divided", x.divided(n, amount, rule, what), model.divided(n, amount, rule, what));
    }

    private void coins(int what) {
        int n = random.nextInt(8);
        int[] bytes = someBytes(n, random.nextBoolean() ? 256 : 30);
        for (int i = 0; i < n; i++) {
            bytes[i] = bytes[i] == 0 && random.nextInt(10) > 0 ? 1 + random.nextInt(9) : bytes[i];
        }
        feed(bytes);
        int amount = upTo(999);
        same("coins", x.coins(n, amount, what), model.coins(n, amount, what));
    }

    private void lent(int k, int n, int hundredths) {
        same("lent", x.lent(k, n, hundredths), model.lent(k, n, hundredths));
    }

    private void seedKeepUndo(int which) {
        if (which < 2) {
            int seed = upTo(65535);
            same("seed", x.seed(seed), model.seed(seed));
        } else if (which == 2) {
            same("keep", x.keep(), model.keep());
        } else {
            same("undo", x.undo(), model.undo());
        }
    }

    private void check(int n) {
        int[] bytes = new int[12];
        for (int p = 0; p < 12; p++) {
            bytes[p] = Math.max(0, model.parishIs(p, 0));
        }
        if (random.nextInt(3) == 0) {
            bytes[random.nextInt(12)]++;
        }
        if (random.nextInt(8) > 0) {
            feed(bytes);
        }
        same("check", x.check(n), model.check(n));
    }

    private void count(int what) {
        same("count " + what, x.count(what), model.count(what));
    }
}
