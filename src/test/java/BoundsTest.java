/** Each argument of each call that reads no tape: at its bounds, just below, just above, not told. */
final class BoundsTest {
    private BoundsTest() {
    }

    public static void main(String[] args) {
        parish();
        road();
        letter();
        months();
        tried();
        parishIs();
        letterIs();
        toldAt();
        spreads();
        miles();
        round();
        roundOfSome();
        readsMost();
        bestMonth();
        tales();
        farAndMisspelt();
        lent();
        seed();
        count();
        Due.end();
    }

    private static boolean isAny(int answer) {
        return answer != BeggingLetter.NONE;
    }

    /** PARISHES 4 to 6 are told, LETTERS 2 to 4, all at HOME in PARISH 5. */
    private static BeggingLetter some() {
        BeggingLetter x = new BeggingLetter();
        for (int p = 4; p <= 6; p++) {
            x.parish(p, 10);
        }
        for (int k = 2; k <= 4; k++) {
            x.letter(k, 5, 500);
        }
        return x;
    }

    /** Promise 2: PARISHES 0 to 11, WEALTH 0 to 99; false: no such ones. */
    private static void parish() {
        Due.bounds("parish", 0, 11, p -> new BeggingLetter().parish(p, 50));
        Due.bounds("wealth", 0, 99, wealth -> new BeggingLetter().parish(11, wealth));
        Due.bounds("wealth of a told one", 0, 99, wealth -> Given.all().parish(0, wealth));
        for (int wealth : new int[] {0, 1, 98, 99}) {
            BeggingLetter x = new BeggingLetter();
            x.parish(11, wealth);
            Due.is("wealth " + wealth + " as it was told", x.parishIs(11, 0), wealth);
        }
    }

    /** Promise 3: between two told PARISHES, 1 to 99 MILES or 0; false: no such ones, the same. */
    private static void road() {
        Due.bounds("road from, 11 being the same", 0, 10, p -> Given.all().road(p, 11, 5));
        Due.bounds("road from, 0 being the same", 1, 11, p -> Given.all().road(p, 0, 5));
        Due.bounds("road to, 11 being the same", 0, 10, q -> Given.all().road(11, q, 5));
        Due.bounds("road to, 0 being the same", 1, 11, q -> Given.all().road(0, q, 5));
        Due.bounds("road from a told one", 4, 5, p -> some().road(p, 6, 5));
        Due.bounds("road to a told one", 5, 6, q -> some().road(4, q, 5));
        Due.bounds("miles", 0, 99, miles -> Given.all().road(3, 9, miles));
        for (int p = 0; p < 12; p++) {
            Due.is("a road from " + p + " to itself", Given.all().road(p, p, 5), false);
            Due.is("no road from " + p + " to itself", Given.all().road(p, p, 0), false);
        }
        for (int miles : new int[] {1, 2, 98, 99}) {
            BeggingLetter x = Given.all();
            x.road(9, 3, miles);
            Due.is(miles + " miles as they were told", x.miles(3, 9), miles);
        }
        BeggingLetter x = Given.all();
        x.road(9, 3, 1);
        Due.is("0 miles", x.road(3, 9, 0), true);
        Due.is("are no road", x.miles(3, 9), -2);
    }

    /** Promise 4: LETTERS 0 to 5, a HOME that is told, a LOSS of 1 to 9999; false: no such ones. */
    private static void letter() {
        Due.bounds("letter", 0, 5, k -> Given.parishes(12).letter(k, 3, 50));
        Due.bounds("home", 0, 11, home -> Given.parishes(12).letter(3, home, 50));
        Due.bounds("told home", 4, 6, home -> some().letter(0, home, 50));
        Due.bounds("loss", 1, 9999, loss -> Given.parishes(12).letter(3, 3, loss));
        Due.bounds("loss of a told one", 1, 9999, loss -> Given.all().letter(3, 3, loss));
        for (int loss : new int[] {1, 2, 9998, 9999}) {
            BeggingLetter x = Given.parishes(12);
            x.letter(5, 11, loss);
            Due.is("loss " + loss + " as it was told", x.letterIs(5, 1), loss);
            Due.is("known at home as it is", x.toldAt(5, 11), loss);
        }
    }

    /** Promise 9: MONTHS 1 to 60; NONE: no such n. */
    private static void months() {
        Due.bounds("months", 1, 60, n -> isAny(Given.all().months(n)));
        for (int n : new int[] {1, 2, 59, 60}) {
            BeggingLetter x = Given.all();
            x.months(n);
            Due.is("as many go by", x.count(0), n);
        }
    }

    /** Promise 10: MONTHS 1 to 60, what 0 to 3, 10 + k of a told LETTER; NONE: no such ones. */
    private static void tried() {
        Due.bounds("tried", 1, 60, n -> isAny(Given.all().tried(n, 0)));
        Due.bounds("tried for a fund", 1, 60, n -> isAny(Given.all().tried(n, 15)));
        Due.bounds("tried what", 0, 3, what -> what < 10 && isAny(Given.all().tried(1, what)));
        Due.bounds("tried what of a letter", 10, 15, what -> what > 4 && isAny(Given.all().tried(1, what)));
        Due.bounds("tried what of a told letter", 12, 14, what -> what > 4 && isAny(some().tried(1, what)));
        for (int what = 4; what < 10; what++) {
            Due.is("tried what " + what, Given.all().tried(1, what), -1);
        }
    }

    /** Promise 11: of a told PARISH, what 0 to 3; NONE for others. */
    private static void parishIs() {
        Due.bounds("parishIs", 0, 11, p -> isAny(Given.all().parishIs(p, 3)));
        Due.bounds("parishIs of a told one", 4, 6, p -> isAny(some().parishIs(p, 0)));
        Due.bounds("parishIs what", 0, 3, what -> isAny(Given.all().parishIs(3, what)));
    }

    /** Promise 12: of a told LETTER, what 0 to 5; NONE for others. */
    private static void letterIs() {
        Due.bounds("letterIs", 0, 5, k -> isAny(Given.all().letterIs(k, 5)));
        Due.bounds("letterIs of a told one", 2, 4, k -> isAny(some().letterIs(k, 0)));
        Due.bounds("letterIs what", 0, 5, what -> isAny(Given.all().letterIs(3, what)));
    }

    /** Promise 13: of a told LETTER in a told PARISH; -2: not KNOWN; NONE: no such ones. */
    private static void toldAt() {
        Due.bounds("toldAt of a letter", 0, 5, k -> isAny(Given.all().toldAt(k, 11)));
        Due.bounds("toldAt of a told letter", 2, 4, k -> isAny(some().toldAt(k, 5)));
        Due.bounds("toldAt a parish", 0, 11, p -> isAny(Given.all().toldAt(5, p)));
        Due.bounds("toldAt a told parish", 4, 6, p -> isAny(some().toldAt(3, p)));
        Due.is("not known", some().toldAt(3, 4), -2);
        Due.is("known", some().toldAt(3, 5), 500);
        Due.is("no such letter where no such parish is", some().toldAt(5, 3), -1);
    }

    /** Promise 14: a told LETTER, what 100 to 102 or a told PARISH; NONE: no such ones. */
    private static void spreads() {
        Due.bounds("spreads", 0, 5, k -> isAny(Given.all().spreads(k, 100)));
        Due.bounds("spreads of a told one", 2, 4, k -> isAny(some().spreads(k, 100)));
        Due.bounds("spreads what", 100, 102, what -> what > 11 && isAny(Given.all().spreads(5, what)));
        Due.bounds("spreads to a parish", 0, 11, what -> what < 99 && isAny(Given.all().spreads(5, what)));
        Due.bounds("spreads to a told parish", 4, 6, what -> what < 99 && isAny(some().spreads(3, what)));
        Due.is("spreads 99", Given.all().spreads(0, 99), -1);
    }

    /** Promise 15: between two told PARISHES; the same: 0; -2: no way; NONE: no such ones. */
    private static void miles() {
        Due.bounds("miles from", 0, 11, p -> isAny(Given.all().miles(p, 5)));
        Due.bounds("miles to", 0, 11, q -> isAny(Given.all().miles(5, q)));
        Due.bounds("miles from a told one", 4, 6, p -> isAny(some().miles(p, 5)));
        Due.bounds("miles to a told one", 4, 6, q -> isAny(some().miles(5, q)));
        Due.bounds("miles of the same", 0, 11, p -> Given.all().miles(p, p) == 0);
        Due.bounds("miles of the same told one", 4, 6, p -> some().miles(p, p) == 0);
        Due.is("no way", some().miles(4, 6), -2);
    }

    /** Promise 16: from a told PARISH, what 100 or a place; -2: it can't be; NONE: no such ones. */
    private static void round() {
        Due.bounds("round from, 11 being in it", 0, 10, p -> isAny(Given.all().round(p, 1 << 11, 100)));
        Due.bounds("round from, 0 being in it", 1, 11, p -> isAny(Given.all().round(p, 1, 100)));
        Due.bounds("round from a told one, 4 being in it", 5, 6, p -> isAny(some().round(p, 1 << 4, 100)));
        Due.bounds("round through a parish, 0 being the first", 1, 11,
            p -> p >= 0 && p < 31 && isAny(Given.all().round(0, 1 << p, 100)));
        Due.bounds("round through a told parish, 4 being the first", 5, 6,
            p -> p >= 0 && p < 31 && isAny(some().round(4, 1 << p, 100)));
        for (int others = 1; others <= 7; others++) {
            int bits = (2 << others) - 2;
            Due.bounds("place in a round through " + others, 0, others - 1,
                what -> isAny(Given.row(12).round(0, bits, what)));
            Due.holds("miles of it", isAny(Given.row(12).round(0, bits, 100)));
            Due.is("what 99", Given.row(12).round(0, bits, 99), -1);
            Due.is("what 101", Given.row(12).round(0, bits, 101), -1);
        }
    }

    /** Promise 16: bits of 1 to 7 told ones, not that one. */
    private static void roundOfSome() {
        for (int others = 0; others <= 11; others++) {
            int bits = (2 << others) - 2;
            int answer = Given.row(12).round(0, bits, 100);
            Due.is("round through " + others, answer, others < 1 || others > 7 ? -1 : 4 * others);
        }
        Due.is("that one alone", Given.row(12).round(0, 1, 100), -1);
        Due.is("that one, too", Given.row(12).round(0, 3, 100), -1);
        for (int bit = 0; bit < 32; bit++) {
            BeggingLetter x = Given.row(4);
            Due.is("bit " + bit + " more", x.round(0, 2 | 1 << bit, 100), bit == 0 || bit > 3 ? -1 : 4 * bit);
        }
    }

    /** Promise 17: a told PARISH, bits of 1 to 5 told LETTERS, what 100 or a place; NONE: no such ones. */
    private static void readsMost() {
        Due.bounds("readsMost in", 0, 11, p -> isAny(Given.all().readsMost(p, 1, 100)));
        Due.bounds("readsMost in a told one", 4, 6, p -> isAny(some().readsMost(p, 4, 100)));
        for (int bits = -1; bits <= 130; bits++) {
            int letters = Integer.bitCount(bits);
            boolean isSome = bits > 0 && bits < 64;
            Due.is("bits " + bits, isAny(Given.all().readsMost(0, bits, 100)), isSome && letters <= 5);
            Due.is("bits of told ones " + bits, isAny(some().readsMost(4, bits, 100)), isSome && (bits & ~28) == 0);
        }
        Due.is("the highest bit", Given.all().readsMost(0, Integer.MIN_VALUE | 1, 100), -1);
        for (int letters = 1; letters <= 5; letters++) {
            int bits = (1 << letters) - 1;
            Due.bounds("place of " + letters, 0, letters - 1, what -> isAny(Given.all().readsMost(0, bits, what)));
            Due.is("what 99", Given.all().readsMost(0, bits, 99), -1);
            Due.is("what 101", Given.all().readsMost(0, bits, 101), -1);
        }
    }

    /** Promise 18: a told PARISH, a told LETTER, what 0 or 1; NONE: no such ones. */
    private static void bestMonth() {
        Due.bounds("bestMonth in", 0, 11, p -> isAny(Given.all().bestMonth(p, 5, 1)));
        Due.bounds("bestMonth in a told one", 4, 6, p -> isAny(some().bestMonth(p, 3, 0)));
        Due.bounds("bestMonth for", 0, 5, k -> isAny(Given.all().bestMonth(11, k, 1)));
        Due.bounds("bestMonth for a told one", 2, 4, k -> isAny(some().bestMonth(5, k, 0)));
        Due.bounds("bestMonth what", 0, 1, what -> isAny(Given.all().bestMonth(0, 0, what)));
    }

    /** Promise 19: a told LETTER, what 0 to 2; NONE: no such ones. */
    private static void tales() {
        Due.bounds("tales", 0, 5, k -> isAny(Given.all().tales(k, 0)));
        Due.bounds("tales of a told one", 2, 4, k -> isAny(some().tales(k, 1)));
        Due.bounds("tales what", 0, 2, what -> isAny(Given.all().tales(0, what)));
    }

    /** Promises 20, 23: LETTERS 0 to 5, told or not; NONE: no such ones. */
    private static void farAndMisspelt() {
        for (int other = 0; other < 6; other++) {
            int j = other;
            Due.bounds("far from", 0, 5, k -> isAny(new BeggingLetter().far(k, j)));
            Due.bounds("far to", 0, 5, k -> isAny(new BeggingLetter().far(j, k)));
            Due.bounds("misspelt from", 0, 5, k -> isAny(new BeggingLetter().misspelt(k, j)));
            Due.bounds("misspelt to", 0, 5, k -> isAny(new BeggingLetter().misspelt(j, k)));
        }
    }

    /** Promise 27: a told LETTER, MONTHS 1 to 60, hundredths 0 to 10; NONE: no such ones. */
    private static void lent() {
        Due.bounds("lent against", 0, 5, k -> isAny(Given.all().lent(k, 1, 0)));
        Due.bounds("lent against a told one", 2, 4, k -> isAny(some().lent(k, 1, 0)));
        Due.bounds("lent for", 1, 60, n -> isAny(Given.all().lent(5, n, 10)));
        Due.bounds("hundredths", 0, 10, hundredths -> isAny(Given.all().lent(0, 60, hundredths)));
    }

    /** Promise 28: 0 to 65535; X, too; false: no such number. */
    private static void seed() {
        Due.bounds("seed", 0, 65535, x -> new BeggingLetter().seed(x));
        for (int seed : new int[] {0, 1, 2, 65534, 65535}) {
            BeggingLetter x = new BeggingLetter();
            x.seed(77);
            x.seed(seed);
            Due.is("X", x.count(8), seed);
        }
    }

    /** Promise 32: what 0 to 9; 10 + k of those with a TEXT; NONE for others. */
    private static void count() {
        Due.bounds("count", 0, 9, what -> isAny(new BeggingLetter().count(what)));
        Due.bounds("count, letter 0 having a text", 0, 10, what -> isAny(written(1).count(what)));
        Due.bounds("count, all having a text", 0, 15, what -> isAny(written(63).count(what)));
        Due.bounds("length of a text", 12, 14, what -> what > 9 && isAny(written(28).count(what)));
    }

    private static BeggingLetter written(int letters) {
        BeggingLetter x = new BeggingLetter();
        for (int k = 0; k < 6; k++) {
            if ((letters >> k & 1) == 1) {
                Due.text(x, k, "abc");
            }
        }
        return x;
    }
}
