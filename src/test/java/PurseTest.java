/** Promises 24 to 26: BIDS, what is DIVIDED, COINS. */
final class PurseTest {
    private PurseTest() {
    }

    public static void main(String[] args) {
        bids();
        divided();
        dividedArguments();
        coins();
        coinsArguments();
        Due.end();
    }

    private static void bids(int reserve, int who, int price, int... all) {
        BeggingLetter x = new BeggingLetter();
        Due.feed(x, all);
        Due.is("who", x.bids(all.length, reserve, 0), who);
        Due.feed(x, all);
        Due.is("at how much", x.bids(all.length, reserve, 1), price);
    }

    private static void bids() {
        bids(0, 0, 0, 0);
        bids(0, 0, 0, 9);
        bids(5, 0, 5, 9);
        bids(9, 0, 9, 9);
        bids(10, -2, -2, 9);
        bids(0, 1, 3, 3, 7, 2);
        bids(5, 1, 5, 3, 7, 2);
        bids(3, 1, 3, 3, 7, 2);
        bids(0, 0, 7, 7, 7, 7);
        bids(0, 2, 200, 1, 200, 255, 3);
        bids(255, 2, 255, 1, 200, 255, 3);
        bids(0, 11, 10, 0, 1, 2, 3, 4, 5, 6, 7, 8, 9, 10, 11);
        bids(0, 0, 0, 0, 0);
        BeggingLetter x = new BeggingLetter();
        Due.feed(x, 5, 9, 9);
        Due.is("the first alone: who", x.bids(1, 0, 0), 0);
        Due.feed(x, 5, 9, 9);
        Due.is("the first alone: at how much", x.bids(1, 0, 1), 0);
        x.feed(0, 0, 0, 0, 0);
        Due.is("13", x.bids(13, 0, 0), -1);
        Due.is("0", x.bids(0, 0, 0), -1);
        Due.is("reserve -1", x.bids(1, -1, 0), -1);
        Due.is("reserve 256", x.bids(1, 256, 0), -1);
        Due.is("what -1", x.bids(1, 0, -1), -1);
        Due.is("what 2", x.bids(1, 0, 2), -1);
        Due.is("12", x.bids(12, 0, 0), 0);
        Due.is("nothing fed", x.bids(1, 0, 0), -1);
    }

    private static void feedLosses(BeggingLetter x, int... losses) {
        int[] bytes = new int[2 * losses.length];
        for (int i = 0; i < losses.length; i++) {
            bytes[2 * i] = losses[i] >> 8;
            bytes[2 * i + 1] = losses[i] & 255;
        }
        Due.feed(x, bytes);
    }

    private static void divided(int rule, int amount, int[] losses, int... due) {
        BeggingLetter x = new BeggingLetter();
        for (int i = 0; i < losses.length; i++) {
            feedLosses(x, losses);
            Due.is("rule " + rule + ", " + amount + ", place " + i, x.divided(losses.length, amount, rule, i), due[i]);
        }
    }

    private static void divided() {
        int[] three = {100, 200, 300};
        divided(0, 100, three, 34, 33, 33);
        divided(0, 300, three, 100, 100, 100);
        divided(0, 400, three, 100, 150, 150);
        divided(0, 401, three, 100, 151, 150);
        divided(0, 599, three, 100, 200, 299);
        divided(0, 600, three, 100, 200, 300);
        divided(0, 9999, three, 100, 200, 300);
        divided(0, 0, three, 0, 0, 0);
        divided(0, 2, three, 1, 1, 0);
        divided(0, 5, new int[] {1, 9, 0, 9}, 1, 2, 0, 2);
        divided(0, 6, new int[] {1, 9, 0, 9}, 1, 3, 0, 2);
        divided(0, 7, new int[] {2, 9, 9}, 2, 3, 2);
        divided(1, 100, three, 0, 0, 100);
        divided(1, 300, three, 0, 100, 200);
        divided(1, 301, three, 1, 100, 200);
        divided(1, 302, three, 1, 101, 200);
        divided(1, 303, three, 1, 101, 201);
        divided(1, 101, three, 0, 1, 100);
        divided(1, 600, three, 100, 200, 300);
        divided(1, 599, three, 100, 200, 299);
        divided(1, 9999, three, 100, 200, 300);
        divided(1, 0, three, 0, 0, 0);
        divided(1, 1, new int[] {5, 5, 5}, 1, 0, 0);
        divided(1, 14, new int[] {5, 5, 5}, 5, 5, 4);
        divided(1, 1, new int[] {0, 9, 9}, 0, 1, 0);
        divided(2, 100, three, 34, 33, 33);
        divided(2, 200, three, 50, 75, 75);
        divided(2, 300, three, 50, 100, 150);
        divided(2, 301, three, 50, 100, 151);
        divided(2, 400, three, 50, 125, 225);
        divided(2, 600, three, 100, 200, 300);
        divided(2, 700, three, 100, 200, 300);
        divided(2, 1, new int[] {1, 1}, 0, 0);
        divided(2, 2, new int[] {1, 1}, 1, 1);
        divided(2, 1, new int[] {1, 1, 1}, 0, 0, 0);
        divided(2, 2, new int[] {1, 1, 1}, 1, 1, 0);
        divided(2, 4, new int[] {3, 5}, 1, 2);
        divided(2, 5, new int[] {3, 5}, 2, 3);
        divided(2, 6, new int[] {3, 5}, 2, 4);
        int[] eight = {9999, 9999, 9999, 9999, 9999, 9999, 9999, 9999};
        divided(0, 9999, eight, 1250, 1250, 1250, 1250, 1250, 1250, 1250, 1249);
        divided(1, 9999, eight, 1250, 1250, 1250, 1250, 1250, 1250, 1250, 1249);
        divided(2, 9999, eight, 1250, 1250, 1250, 1250, 1250, 1250, 1250, 1249);
        divided(0, 9999, new int[] {9999}, 9999);
        divided(1, 9998, new int[] {9999}, 9998);
        divided(2, 9998, new int[] {9999}, 9998);
        divided(2, 5000, new int[] {9999}, 5000);
        divided(0, 5, new int[] {0, 0}, 0, 0);
        divided(1, 5, new int[] {0, 0}, 0, 0);
        divided(2, 5, new int[] {0, 0}, 0, 0);
        divided(2, 0, new int[] {0, 0}, 0, 0);
    }

    private static void dividedArguments() {
        BeggingLetter x = new BeggingLetter();
        feedLosses(x, 1, 2, 3, 4, 5, 6, 7, 8);
        Due.is("n 0", x.divided(0, 5, 0, 0), -1);
        Due.is("n 9", x.divided(9, 5, 0, 0), -1);
        Due.is("amount -1", x.divided(1, -1, 0, 0), -1);
        Due.is("amount 10000", x.divided(1, 10000, 0, 0), -1);
        Due.is("rule -1", x.divided(1, 5, -1, 0), -1);
        Due.is("rule 3", x.divided(1, 5, 3, 0), -1);
        Due.is("place -1", x.divided(1, 5, 0, -1), -1);
        Due.is("place 1 of 1", x.divided(1, 5, 0, 1), -1);
        Due.is("n of the highest", x.divided(1 << 30, 5, 0, 0), -1);
        Due.is("it stays", x.count(7), 20);
        Due.is("eight", x.divided(8, 36, 0, 7), 8);
        Due.is("nothing fed", x.divided(1, 5, 0, 0), -1);
        feedLosses(x, 1, 10000);
        Due.is("10000 is not among them", x.divided(1, 5, 0, 0), 1);
        feedLosses(x, 10000, 1);
        Due.is("10000 is", x.divided(2, 5, 0, 1), -2);
        feedLosses(x, 1, 65535);
        Due.is("65535 is", x.divided(2, 5, 2, 0), -2);
        feedLosses(x, 9999, 1);
        Due.is("9999 may be", x.divided(2, 5, 0, 0), 4);
    }

    private static void coins(int amount, int fewest, int ways, int greatest, int... all) {
        BeggingLetter x = new BeggingLetter();
        int[] due = {fewest, ways, greatest};
        for (int what = 0; what < 3; what++) {
            Due.feed(x, all);
            Due.is("coins for " + amount + ", what " + what, x.coins(all.length, amount, what), due[what]);
        }
    }

    private static void coins() {
        coins(0, 0, 1, 0, 5);
        coins(5, 1, 1, 1, 5);
        coins(4, -2, 0, -2, 5);
        coins(6, -2, 0, -2, 5);
        coins(6, 2, 4, 3, 1, 3, 4);
        coins(6, 2, 1, -2, 3, 4);
        coins(6, 2, 1, -2, 4, 4, 3, 3);
        coins(8, 2, 1, 2, 4, 4);
        coins(4, 2, 2, 2, 3, 1);
        coins(30, 3, 5, 6, 25, 1, 10);
        coins(188, 8, 1239, -2, 100, 50, 20, 10, 5, 2);
        coins(126, 6, 1626, 6, 64, 32, 16, 8, 4, 2);
        coins(127, -2, 0, -2, 2, 4, 8, 16, 32, 64);
        coins(762, 3, 2, -2, 255, 254, 253);
        coins(999, -2, 0, -2, 255);
        coins(999, 999, 1, 999, 1);
        coins(300, 50, 33377536, 50, 1, 2, 3, 4, 5, 6);
        coins(600, 100, 981355696, 100, 6, 5, 4, 3, 2, 1);
        coins(605, 101, 1000000000, 101, 1, 2, 3, 4, 5, 6);
        coins(999, 167, 1000000000, 167, 1, 2, 3, 4, 5, 6);
        coins(0, -3, -3, -3, 0);
        coins(5, -3, -3, -3, 5, 0);
        coins(5, -3, -3, -3, 0, 5);
        BeggingLetter x = new BeggingLetter();
        for (int times = 0; times < 2; times++) {
            Due.feed(x, 2, 3, 7);
            Due.is("ways", x.coins(3, 14, 1), 5);
            Due.feed(x, 4, 5);
            Due.is("other coins", x.coins(2, 14, 0), 3);
            Due.feed(x, 4, 5);
            Due.is("other coins by the greatest", x.coins(2, 14, 2), 3);
        }
    }

    private static void coinsArguments() {
        BeggingLetter x = new BeggingLetter();
        Due.feed(x, 5, 0, 0, 0, 0, 0, 0);
        Due.is("n 0", x.coins(0, 5, 0), -1);
        Due.is("n 7", x.coins(7, 5, 0), -1);
        Due.is("amount -1", x.coins(1, -1, 0), -1);
        Due.is("amount 1000", x.coins(1, 1000, 0), -1);
        Due.is("what -1", x.coins(1, 5, -1), -1);
        Due.is("what 3", x.coins(1, 5, 3), -1);
        Due.is("no such ones ahead of a coin of 0", x.coins(2, 1000, 0), -1);
        Due.is("it stays", x.count(7), 20);
        Due.is("the first alone", x.coins(1, 5, 0), 1);
        Due.is("nothing fed", x.coins(1, 5, 0), -1);
    }
}
