/** Promises 8, 20 to 23, 32: TEXTS of LETTERS, how far they are, and from whom they were copied. */
final class CopiesTest {
    private CopiesTest() {
    }

    public static void main(String[] args) {
        texts();
        far();
        nearest();
        fromWhom();
        misspelt();
        Due.end();
    }

    private static void texts() {
        BeggingLetter x = new BeggingLetter();
        Due.is("text", Due.text(x, 5, "a"), true);
        Due.is("of one not told", x.count(9), 32);
        Due.is("length", x.count(15), 1);
        Due.is("none", x.count(14), -1);
        Due.is("40 bytes", Due.text(x, 0, Due.times("0123456789", 4)), true);
        Due.is("length", x.count(10), 40);
        Due.is("41 bytes", Due.text(x, 0, Due.times("x", 41)), false);
        Due.is("as before", x.count(10), 40);
        Due.is("bits", x.count(9), 33);
        x.check(0);
        Due.is("in place", Due.text(x, 0, "ab"), true);
        Due.is("length", x.count(10), 2);
        Due.feed(x, 1);
        Due.is("letter -1", x.text(-1, 1), false);
        Due.is("letter 6", x.text(6, 1), false);
        Due.is("no bytes", x.text(0, 0), false);
        Due.is("one byte", x.text(0, 1), true);
        Due.is("nothing fed", x.text(0, 1), false);
        Due.is("length", x.count(10), 1);
    }

    private static void far(String a, String b, int due) {
        BeggingLetter x = new BeggingLetter();
        Due.text(x, 1, a);
        Due.text(x, 4, b);
        Due.is("far " + a + ", " + b, x.far(1, 4), due);
        Due.is("far " + b + ", " + a, x.far(4, 1), due);
        Due.is("far from itself", x.far(1, 1), 0);
    }

    private static void far() {
        far("kitten", "sitting", 3);
        far("a", "a", 0);
        far("a", "b", 1);
        far("a", "ab", 1);
        far("ab", "b", 1);
        far("abc", "cab", 2);
        far("abcdef", "fedcba", 6);
        far("\0\0", "\u00ff\0", 1);
        far("abcabc", "bcabca", 2);
        far(Due.times("a", 40), Due.times("b", 40), 40);
        far(Due.times("a", 40), "b", 40);
        far(Due.times("ab", 20), Due.times("ba", 20), 2);
        BeggingLetter x = new BeggingLetter();
        Due.text(x, 1, "a");
        Due.is("one has none", x.far(1, 0), -2);
        Due.is("one has none", x.far(0, 1), -2);
        Due.is("both have none", x.far(0, 0), -2);
        for (int no : new int[] {-1, 6, Integer.MIN_VALUE, Integer.MAX_VALUE}) {
            Due.is("no such", x.far(no, 1), -1);
            Due.is("no such", x.far(1, no), -1);
            Due.is("no such", x.misspelt(no, 1), -1);
            Due.is("no such", x.misspelt(1, no), -1);
        }
    }

    private static int nearest(BeggingLetter x, String text, int what) {
        Due.feed(x, Due.bytes(text));
        return x.nearest(text.length(), what);
    }

    private static void nearest() {
        BeggingLetter x = new BeggingLetter();
        Due.is("none has a text", nearest(x, "abc", 1), -2);
        Due.text(x, 0, "0000000");
        Due.is("letter 0", nearest(x, "0", 0), 0);
        Due.is("letter 0 by", nearest(x, "0", 1), 6);
        Due.text(x, 3, "abcd");
        Due.text(x, 1, "xbc");
        Due.text(x, 5, "abc");
        Due.is("like it", nearest(x, "abc", 0), 5);
        Due.is("by nothing", nearest(x, "abc", 1), 0);
        Due.is("of like ones the lowest", nearest(x, "bc", 0), 1);
        Due.is("by one", nearest(x, "bc", 1), 1);
        Due.is("the longest", nearest(x, Due.times("d", 40), 0), 3);
        Due.is("by 39", nearest(x, Due.times("d", 40), 1), 39);
        Due.is("too long", nearest(x, Due.times("d", 41), 1), -1);
        Due.is("it stays", x.count(7), 60);
        Due.is("what 2", x.nearest(1, 2), -1);
        Due.is("what -1", x.nearest(1, -1), -1);
        Due.is("n 0", x.nearest(0, 0), -1);
        Due.is("then", x.nearest(1, 1), 3);
    }

    private static void fromWhom() {
        BeggingLetter x = new BeggingLetter();
        Due.is("none", x.fromWhom(), -2);
        BeggingLetter y = new BeggingLetter();
        Due.text(y, 0, "abc");
        Due.is("letter 0 alone", y.fromWhom(), 0);
        Due.text(y, 5, "abd");
        Due.is("the first and the last", y.fromWhom(), 1);
        Due.text(x, 2, "aaaaaa");
        Due.is("one", x.fromWhom(), 0);
        Due.text(x, 4, "aaaabb");
        Due.is("two", x.fromWhom(), 2);
        Due.text(x, 0, "aabbbb");
        Due.is("from the second, not from the first", x.fromWhom(), 4);
        Due.text(x, 5, "bbbbbb");
        Due.is("on and on", x.fromWhom(), 6);
        Due.text(x, 1, "aaabbb");
        Due.is("in between", x.fromWhom(), 6);
        Due.text(x, 3, "z");
        Due.is("one far off", x.fromWhom(), 12);
        Due.text(x, 3, "bbbbbb");
        Due.is("one alike", x.fromWhom(), 6);
    }

    private static void misspelt(String a, String b, int due) {
        BeggingLetter x = new BeggingLetter();
        Due.text(x, 0, a);
        Due.text(x, 5, b);
        Due.is("misspelt " + a + ", " + b, x.misspelt(0, 5), due);
        Due.is("misspelt " + b + ", " + a, x.misspelt(5, 0), due);
        Due.is("alike", x.misspelt(5, 5), -2);
        Due.is("one has none", x.misspelt(0, 1), -2);
        Due.is("one has none", x.misspelt(1, 0), -2);
    }

    private static void misspelt() {
        misspelt("abc", "abc", -2);
        misspelt("abc", "xbc", 0);
        misspelt("abc", "abx", 2);
        misspelt("abc", "abcd", 3);
        misspelt("a", "b", 0);
        misspelt("abc", "ab\0", 2);
        misspelt(Due.times("a", 39), Due.times("a", 40), 39);
        misspelt(Due.times("a", 40), Due.times("a", 40), -2);
        BeggingLetter x = new BeggingLetter();
        Due.text(x, 0, "abcdef");
        Due.text(x, 0, "ab");
        Due.text(x, 1, "abcdef");
        Due.is("nothing of the one before", x.misspelt(0, 1), 2);
    }
}
