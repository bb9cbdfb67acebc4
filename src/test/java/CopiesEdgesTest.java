/** Promises 8, 20 to 23, 32 at their bounds: TEXTS, FAR, NEAREST, FROM WHOM, MISSPELT. */
final class CopiesEdgesTest {
    private static final String ZEROS = Due.times("0", 40);

    private CopiesEdgesTest() {
    }

    public static void main(String[] args) {
        lengths();
        anyBytes();
        toldOrNot();
        inPlace();
        oneChange();
        farMost();
        farOfNone();
        nearestLowest();
        nearestFar();
        nearestOfNone();
        fromWhomOfFew();
        fromWhomMost();
        fromWhomChain();
        misspeltPlaces();
        misspeltAlike();
        Due.end();
    }

    /** "A TEXT of 1 to 40 bytes (...; none at first)". */
    private static void lengths() {
        BeggingLetter none = new BeggingLetter();
        Due.is("none at first", none.count(9), 0);
        for (int k = 0; k < 6; k++) {
            Due.is("no length at first", none.count(10 + k), -1);
        }
        for (int n = 1; n <= 40; n++) {
            BeggingLetter x = new BeggingLetter();
            Due.is("a text of " + n, Due.text(x, n % 6, ZEROS.substring(0, n)), true);
            Due.is("its length", x.count(10 + n % 6), n);
            Due.is("the one with a text", x.count(9), 1 << n % 6);
        }
    }

    /** "Any bytes": each of 256 is one of its own. */
    private static void anyBytes() {
        for (int sign = 0; sign < 256; sign++) {
            BeggingLetter x = new BeggingLetter();
            Due.text(x, 0, "a" + (char) sign);
            Due.text(x, 1, "a" + (char) (sign + 1 & 255));
            Due.text(x, 2, "a" + (char) sign);
            Due.is("far by sign " + sign, x.far(0, 1), 1);
            Due.is("far of like ones " + sign, x.far(0, 2), 0);
            Due.is("misspelt by sign " + sign, x.misspelt(0, 1), 1);
            Due.is("length", x.count(10), 2);
        }
    }

    /** "LETTER k (0 to 5, told or not)": and a LETTER's TEXT stays when it is told, told anew, undone. */
    private static void toldOrNot() {
        for (int k = 0; k < 6; k++) {
            BeggingLetter x = Given.parishes(1);
            x.keep();
            Due.is("untold", Due.text(x, k, "abc"), true);
            x.letter(k, 0, 50);
            Due.is("told now", x.count(10 + k), 3);
            Due.is("told", Due.text(x, k, "abcd"), true);
            x.letter(k, 0, 60);
            Due.is("told anew", x.count(10 + k), 4);
            x.undo();
            Due.is("undone", x.count(10 + k), 4);
            Due.is("not told", x.count(4), 0);
        }
    }

    /** A shorter TEXT in place of a longer one is no longer than it is. */
    private static void inPlace() {
        BeggingLetter x = new BeggingLetter();
        Due.text(x, 0, ZEROS);
        Due.text(x, 1, "0");
        Due.is("39 apart", x.far(0, 1), 39);
        Due.text(x, 0, "0");
        Due.is("alike now", x.far(0, 1), 0);
        Due.is("alike", x.misspelt(0, 1), -2);
        Due.text(x, 0, ZEROS);
        Due.is("39 apart again", x.far(0, 1), 39);
    }

    private static void far(String a, String b, int due) {
        BeggingLetter x = new BeggingLetter();
        Due.text(x, 0, a);
        Due.text(x, 5, b);
        Due.is("far " + a + " " + b, x.far(0, 5), due);
        Due.is("far " + b + " " + a, x.far(5, 0), due);
        Due.is("from whom", x.fromWhom(), due);
        Due.feed(x, Due.bytes(a));
        x.text(5, a.length());
        Due.feed(x, Due.bytes(b));
        Due.is("nearest to " + b, x.nearest(b.length(), 1), due);
    }

    /** "Each a byte more, a byte less, or a byte another one": in each place of a TEXT. */
    private static void oneChange() {
        String text = "abcdefgh";
        for (int place = 0; place <= 8; place++) {
            far(text, text.substring(0, place) + "x" + text.substring(place), 1);
            if (place < 8) {
                far(text, text.substring(0, place) + text.substring(place + 1), 1);
                far(text, text.substring(0, place) + "x" + text.substring(place + 1), 1);
            }
        }
        far("ab", "ba", 2);
        far("abc", "bcx", 2);
        far("abcd", "xaybzc", 4);
        far("aXbXc", "abc", 2);
    }

    /** The fewest and the most: 0 of like ones, 40 of the longest that have nothing alike. */
    private static void farMost() {
        far(ZEROS, ZEROS, 0);
        far(ZEROS, Due.times("1", 40), 40);
        far(ZEROS, "1", 40);
        far(ZEROS, "0", 39);
        far("1", "1", 0);
        far("1", "0", 1);
        far(ZEROS, Due.times("1", 39), 40);
        far(ZEROS, Due.times("0", 39) + "1", 1);
        far("1" + Due.times("0", 39), Due.times("0", 39) + "1", 2);
        far(Due.times("01", 20), Due.times("10", 20), 2);
    }

    /** "-2: one has none; NONE: no such ones", NONE ahead of -2. */
    private static void farOfNone() {
        BeggingLetter x = new BeggingLetter();
        Due.is("both have none", x.far(0, 5), -2);
        Due.is("the same has none", x.far(3, 3), -2);
        Due.text(x, 0, "a");
        Due.is("the second has none", x.far(0, 5), -2);
        Due.is("the first has none", x.far(5, 0), -2);
        Due.is("the same has one", x.far(0, 0), 0);
        Due.is("no such one ahead of none", x.far(5, 6), -1);
        Due.is("no such one ahead of none", x.far(-1, 5), -1);
        Due.is("misspelt, too", x.misspelt(5, 6), -1);
        Due.is("misspelt, too", x.misspelt(-1, 5), -1);
    }

    private static int nearest(BeggingLetter x, String text, int what) {
        Due.feed(x, Due.bytes(text));
        return x.nearest(text.length(), what);
    }

    /** "What 0 which (of like ones the lowest)". */
    private static void nearestLowest() {
        for (int first = 0; first < 6; first++) {
            BeggingLetter x = new BeggingLetter();
            for (int k = 5; k >= first; k--) {
                Due.text(x, k, "abc");
            }
            Due.is("all alike", nearest(x, "abd", 0), first);
            Due.is("how far", nearest(x, "abd", 1), 1);
            Due.text(x, 5, "abd");
            Due.is("the last nearer", nearest(x, "abd", 0), 5);
            Due.is("by nothing", nearest(x, "abd", 1), 0);
        }
    }

    /** Of 1 byte and of 40; the farthest that one can be is 40. */
    private static void nearestFar() {
        BeggingLetter x = new BeggingLetter();
        Due.text(x, 4, "1");
        Due.is("which", nearest(x, ZEROS, 0), 4);
        Due.is("40", nearest(x, ZEROS, 1), 40);
        Due.text(x, 5, Due.times("1", 40));
        Due.is("both 40: the lowest", nearest(x, ZEROS, 0), 4);
        Due.is("of one byte", nearest(x, "2", 0), 4);
        Due.is("one", nearest(x, "2", 1), 1);
        Due.is("39", nearest(x, Due.times("0", 39) + "1", 1), 39);
    }

    /** "-2: none has a TEXT", what 0 and 1. */
    private static void nearestOfNone() {
        Due.is("which", nearest(new BeggingLetter(), "a", 0), -2);
        Due.is("how far", nearest(new BeggingLetter(), ZEROS, 1), -2);
        Due.is("what 2", nearest(new BeggingLetter(), "a", 2), -1);
        Due.is("what -1", nearest(new BeggingLetter(), "a", -1), -1);
    }

    /** "How much; -2: none has a TEXT": none, one, two, whichever they are. */
    private static void fromWhomOfFew() {
        Due.is("none", new BeggingLetter().fromWhom(), -2);
        for (int k = 0; k < 6; k++) {
            BeggingLetter x = new BeggingLetter();
            Due.text(x, k, ZEROS);
            Due.is("one, " + k, x.fromWhom(), 0);
            for (int j = 0; j < 6; j++) {
                BeggingLetter y = new BeggingLetter();
                Due.text(y, k, ZEROS);
                Due.text(y, j, "01");
                Due.is("two, " + k + " and " + j, y.fromWhom(), j == k ? 0 : 39);
                BeggingLetter z = new BeggingLetter();
                Due.text(z, k, ZEROS);
                Due.text(z, j, Due.times("1", 40));
                Due.is("two by 40, " + k + " and " + j, z.fromWhom(), j == k ? 0 : 40);
            }
        }
    }

    /** Six that have nothing alike, of 40 bytes each: 200; six that are alike: 0. */
    private static void fromWhomMost() {
        BeggingLetter x = new BeggingLetter();
        BeggingLetter y = new BeggingLetter();
        for (int k = 0; k < 6; k++) {
            Due.text(x, k, Due.times("" + k, 40));
            Due.is(k + 1 + " by 40 each", x.fromWhom(), 40 * k);
            Due.text(y, k, ZEROS);
            Due.is("alike", y.fromWhom(), 0);
        }
    }

    /** "Trees by which FAR of all twos added up is least": a chain, a star, two ends that meet late. */
    private static void fromWhomChain() {
        String[] chain = {"aaaaaaaa", "aaaaaabb", "aaaabbbb", "aabbbbbb", "bbbbbbbb", "bbbbbbcc"};
        String[] star = {"aaaaaa", "baaaaa", "abaaaa", "aabaaa", "aaabaa", "aaaaba"};
        String[] pairs = {"aaaaaaaa", "zzzzzzzz", "aaaaaaab", "zzzzzzzy", "aaaaaacb", "zzzzzzxy"};
        int[][] orders = {{0, 1, 2, 3, 4, 5}, {5, 4, 3, 2, 1, 0}, {3, 0, 5, 1, 4, 2}, {2, 4, 0, 5, 3, 1}};
        for (int[] order : orders) {
            BeggingLetter x = new BeggingLetter();
            BeggingLetter y = new BeggingLetter();
            BeggingLetter z = new BeggingLetter();
            for (int k = 0; k < 6; k++) {
                Due.text(x, k, chain[order[k]]);
                Due.text(y, k, star[order[k]]);
                Due.text(z, k, pairs[order[k]]);
            }
            Due.is("a chain", x.fromWhom(), 10);
            Due.is("a star", y.fromWhom(), 5);
            Due.is("two chains", z.fromWhom(), 4 + 8);
        }
    }

    private static void misspelt(String a, String b, int due) {
        BeggingLetter x = new BeggingLetter();
        Due.text(x, 1, a);
        Due.text(x, 4, b);
        Due.is("misspelt " + a + " " + b, x.misspelt(1, 4), due);
        Due.is("misspelt " + b + " " + a, x.misspelt(4, 1), due);
    }

    /** "The first place at which two TEXTS part (the shorter one's end, too)": each place from 0 to 39. */
    private static void misspeltPlaces() {
        for (int place = 0; place < 40; place++) {
            misspelt(ZEROS, ZEROS.substring(0, place) + "1" + ZEROS.substring(place + 1), place);
            misspelt(ZEROS, ZEROS.substring(0, place) + Due.times("1", 40 - place), place);
            if (place > 0) {
                misspelt(ZEROS, ZEROS.substring(0, place), place);
            }
        }
        misspelt("0", "00", 1);
        misspelt("0", "01", 1);
        misspelt("1", "01", 0);
        misspelt("0", "0\0", 1);
    }

    /** "-2: they are alike, one has none". */
    private static void misspeltAlike() {
        misspelt("0", "0", -2);
        misspelt(ZEROS, ZEROS, -2);
        misspelt("\0", "\0", -2);
        BeggingLetter x = new BeggingLetter();
        Due.is("both have none", x.misspelt(0, 1), -2);
        Due.is("the same has none", x.misspelt(2, 2), -2);
        Due.text(x, 0, "a");
        Due.is("the second has none", x.misspelt(0, 1), -2);
        Due.is("the first has none", x.misspelt(1, 0), -2);
        Due.is("the same", x.misspelt(0, 0), -2);
    }
}
