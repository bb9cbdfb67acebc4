/** Promises 24 to 26 at their bounds: BIDS, DIVIDED, COINS. */
final class PurseEdgesTest {
    private PurseEdgesTest() {
    }

    public static void main(String[] args) {
        bidsOfOne();
        bidsOfTwelve();
        bidsAlike();
        bidsAndReserve();
        lossesOfTwoBytes();
        nothingAndAll();
        sameNumber();
        leftOver();
        lessSameNumber();
        leftOverOfLess();
        halves();
        oddHalves();
        ofOne();
        ofEight();
        allIsGivenOrAsked();
        coinsOfNought();
        coinBounds();
        amounts();
        waysAtMost();
        coinsAlike();
        greatestFirst();
        Due.end();
    }

    private static void bids(int reserve, int who, int price, int... all) {
        BeggingLetter x = new BeggingLetter();
        Due.feed(x, all);
        Due.is("who, reserve " + reserve, x.bids(all.length, reserve, 0), who);
        Due.feed(x, all);
        Due.is("at how much, reserve " + reserve, x.bids(all.length, reserve, 1), price);
    }

    /** One bid, 0 to 255: at the reserve, if it is not below that. */
    private static void bidsOfOne() {
        int[] numbers = {0, 1, 127, 128, 254, 255};
        for (int bid : numbers) {
            for (int reserve : numbers) {
                bids(reserve, bid >= reserve ? 0 : -2, bid >= reserve ? reserve : -2, bid);
            }
        }
    }

    /** Twelve bids, the highest in each place. */
    private static void bidsOfTwelve() {
        for (int place = 0; place < 12; place++) {
            int[] all = {9, 9, 9, 9, 9, 9, 9, 9, 9, 9, 9, 9};
            all[place] = 255;
            all[(place + 5) % 12] = 254;
            bids(0, place, 254, all);
            bids(254, place, 254, all);
            bids(255, place, 255, all);
            all[place] = 253;
            bids(254, (place + 5) % 12, 254, all);
            bids(255, -2, -2, all);
        }
    }

    /** "The highest one (of like ones the first)", "at the second highest one": which may be as high. */
    private static void bidsAlike() {
        bids(0, 0, 0, 0, 0);
        bids(0, 0, 255, 255, 255);
        bids(0, 1, 7, 3, 7, 7);
        bids(0, 0, 7, 7, 7, 3);
        bids(0, 2, 6, 6, 6, 7);
        bids(7, 1, 7, 3, 7, 7);
        bids(8, -2, -2, 3, 7, 7);
    }

    /** "Or at a reserve, if that is more; nobody if all are below the reserve". */
    private static void bidsAndReserve() {
        int[] reserves = {0, 19, 20, 21, 29, 30, 31, 255};
        int[] prices = {20, 20, 20, 21, 29, 30, -2, -2};
        for (int i = 0; i < reserves.length; i++) {
            bids(reserves[i], prices[i] < 0 ? -2 : 1, prices[i], 20, 30, 10);
        }
    }

    private static void divided(int rule, int amount, int[] losses, int... due) {
        BeggingLetter x = new BeggingLetter();
        for (int i = 0; i < losses.length; i++) {
            Due.is("rule " + rule + ", " + amount + ", place " + i, share(x, rule, amount, losses, i), due[i]);
        }
    }

    private static int share(BeggingLetter x, int rule, int amount, int[] losses, int place) {
        int[] bytes = new int[2 * losses.length];
        for (int i = 0; i < losses.length; i++) {
            bytes[2 * i] = losses[i] >> 8;
            bytes[2 * i + 1] = losses[i] & 255;
        }
        Due.feed(x, bytes);
        return x.divided(losses.length, amount, rule, place);
    }

    /** "Losses of two bytes" (the higher first), 0 to 9999; "-2: a loss above 9999", in any place. */
    private static void lossesOfTwoBytes() {
        int[] numbers = {0, 1, 255, 256, 257, 9998, 9999, 10000, 10001, 32767, 32768, 65535};
        for (int loss : numbers) {
            for (int rule = 0; rule < 3; rule++) {
                int due = loss <= 9999 ? loss : -2;
                Due.is("a loss of " + loss, share(new BeggingLetter(), rule, 9999, new int[] {loss}, 0), due);
            }
        }
        for (int place = 0; place < 8; place++) {
            int[] losses = new int[8];
            losses[place] = 10000;
            for (int asked = 0; asked < 8; asked++) {
                Due.is("10000 at " + place, share(new BeggingLetter(), 0, 5, losses, asked), -2);
            }
            losses[place] = 9999;
            Due.is("9999 at " + place, share(new BeggingLetter(), 0, 9999, losses, place), 9999);
        }
    }

    /** "Where all that is asked for can be given, it is, and what is more nobody gets": at it, just below, just above. */
    private static void nothingAndAll() {
        int[] three = {10, 0, 30};
        for (int rule = 0; rule < 3; rule++) {
            divided(rule, 0, three, 0, 0, 0);
            divided(rule, 39, three, 10, 0, 29);
            divided(rule, 40, three, 10, 0, 30);
            divided(rule, 41, three, 10, 0, 30);
            divided(rule, 9999, three, 10, 0, 30);
            divided(rule, 0, new int[] {0}, 0);
            divided(rule, 9999, new int[] {0, 0}, 0, 0);
        }
    }

    /** RULE 0: "no more than one same number, the greatest by which no more than the amount is given". */
    private static void sameNumber() {
        int[] four = {5, 10, 15, 20};
        divided(0, 20, four, 5, 5, 5, 5);
        divided(0, 24, four, 5, 7, 6, 6);
        divided(0, 35, four, 5, 10, 10, 10);
        divided(0, 36, four, 5, 10, 11, 10);
        divided(0, 45, four, 5, 10, 15, 15);
        divided(0, 46, four, 5, 10, 15, 16);
        divided(0, 49, four, 5, 10, 15, 19);
        divided(0, 50, four, 5, 10, 15, 20);
        divided(0, 24, new int[] {20, 15, 10, 5}, 7, 6, 6, 5);
    }

    /** RULE 0: "what is left one by one, from the lowest on, to those who lost more than that number". */
    private static void leftOver() {
        divided(0, 1, new int[] {1, 1}, 1, 0);
        divided(0, 1, new int[] {0, 1, 1}, 0, 1, 0);
        divided(0, 3, new int[] {2, 2}, 2, 1);
        divided(0, 7, new int[] {3, 3, 3}, 3, 2, 2);
        divided(0, 8, new int[] {3, 3, 3}, 3, 3, 2);
        divided(0, 8, new int[] {2, 3, 9}, 2, 3, 3);
        divided(0, 7, new int[] {2, 3, 9}, 2, 3, 2);
        divided(0, 7, new int[] {9, 3, 2}, 3, 2, 2);
        divided(0, 6, new int[] {9, 3, 2}, 2, 2, 2);
        divided(0, 5, new int[] {9, 3, 2}, 2, 2, 1);
    }

    /** RULE 1: "less one same number (0 at least), the least by which no more than the amount is given". */
    private static void lessSameNumber() {
        int[] four = {5, 10, 15, 20};
        divided(1, 5, four, 0, 0, 0, 5);
        divided(1, 15, four, 0, 0, 5, 10);
        divided(1, 30, four, 0, 5, 10, 15);
        divided(1, 46, four, 4, 9, 14, 19);
        divided(1, 50, four, 5, 10, 15, 20);
        divided(1, 15, new int[] {20, 5, 15, 10}, 10, 0, 5, 0);
    }

    /** RULE 1: "what is left one by one, from the lowest on, to those who lost that number or more". */
    private static void leftOverOfLess() {
        divided(1, 1, new int[] {1, 1}, 1, 0);
        divided(1, 1, new int[] {1, 2}, 0, 1);
        divided(1, 2, new int[] {1, 2}, 1, 1);
        divided(1, 1, new int[] {2, 1}, 1, 0);
        divided(1, 2, new int[] {2, 1}, 2, 0);
        divided(1, 2, new int[] {3, 2}, 2, 0);
        divided(1, 16, new int[] {5, 10, 15, 20}, 0, 1, 5, 10);
        divided(1, 17, new int[] {5, 10, 15, 20}, 0, 1, 6, 10);
        divided(1, 18, new int[] {5, 10, 15, 20}, 0, 1, 6, 11);
        divided(1, 31, new int[] {5, 10, 15, 20}, 1, 5, 10, 15);
        divided(1, 1, new int[] {0, 0, 1}, 0, 0, 1);
    }

    /** RULE 2: "if twice the amount is no more than all losses, by RULE 0 with half of each loss; else ...". */
    private static void halves() {
        int[] three = {100, 200, 300};
        divided(2, 149, three, 50, 50, 49);
        divided(2, 150, three, 50, 50, 50);
        divided(2, 299, three, 50, 100, 149);
        divided(2, 300, three, 50, 100, 150);
        divided(2, 301, three, 50, 100, 151);
        divided(2, 302, three, 50, 100, 152);
        divided(2, 350, three, 50, 100, 200);
        divided(2, 351, three, 50, 101, 200);
        divided(2, 599, three, 100, 200, 299);
        divided(2, 600, three, 100, 200, 300);
    }

    /** RULE 2: "half of each loss (rounded down)", "else that half each, and what is left by RULE 1 with the rests". */
    private static void oddHalves() {
        divided(2, 0, new int[] {1}, 0);
        divided(2, 1, new int[] {1}, 1);
        divided(2, 1, new int[] {2}, 1);
        divided(2, 1, new int[] {3}, 1);
        divided(2, 2, new int[] {3}, 2);
        divided(2, 1, new int[] {1, 1}, 0, 0);
        divided(2, 2, new int[] {1, 1}, 1, 1);
        divided(2, 3, new int[] {3, 3}, 1, 1);
        divided(2, 4, new int[] {3, 3}, 2, 2);
        divided(2, 5, new int[] {3, 3}, 3, 2);
        divided(2, 4, new int[] {3, 3, 3}, 1, 1, 1);
        divided(2, 5, new int[] {3, 3, 3}, 2, 2, 1);
        divided(2, 6, new int[] {3, 3, 3}, 2, 2, 2);
        divided(2, 6, new int[] {5, 7}, 2, 3);
        divided(2, 7, new int[] {5, 7}, 3, 4);
        divided(2, 8, new int[] {5, 7}, 3, 5);
        divided(2, 6, new int[] {0, 5, 7}, 0, 2, 3);
    }

    /** One who lost: it gets the amount, or its loss. */
    private static void ofOne() {
        for (int rule = 0; rule < 3; rule++) {
            for (int amount : new int[] {0, 1, 4999, 5000, 9997, 9998, 9999}) {
                divided(rule, amount, new int[] {9999}, amount);
                divided(rule, amount, new int[] {9998}, Math.min(amount, 9998));
                divided(rule, amount, new int[] {1}, Math.min(amount, 1));
            }
        }
    }

    /** Eight who lost 9999 each, and an amount of 9999, of 9992, of 8 and of 7. */
    private static void ofEight() {
        int[] eight = {9999, 9999, 9999, 9999, 9999, 9999, 9999, 9999};
        for (int rule = 0; rule < 3; rule++) {
            divided(rule, 9999, eight, 1250, 1250, 1250, 1250, 1250, 1250, 1250, 1249);
            divided(rule, 9992, eight, 1249, 1249, 1249, 1249, 1249, 1249, 1249, 1249);
            divided(rule, 8, eight, 1, 1, 1, 1, 1, 1, 1, 1);
            divided(rule, 7, eight, 1, 1, 1, 1, 1, 1, 1, 0);
            divided(rule, 0, eight, 0, 0, 0, 0, 0, 0, 0, 0);
        }
        int[] eightOnes = {1, 1, 1, 1, 1, 1, 1, 1};
        divided(0, 7, eightOnes, 1, 1, 1, 1, 1, 1, 1, 0);
        divided(1, 7, eightOnes, 1, 1, 1, 1, 1, 1, 1, 0);
        divided(2, 7, eightOnes, 1, 1, 1, 1, 1, 1, 1, 0);
        divided(2, 4, eightOnes, 0, 0, 0, 0, 0, 0, 0, 0);
        divided(2, 5, eightOnes, 1, 1, 1, 1, 1, 0, 0, 0);
    }

    /** All shares together: the amount, or all losses (RULE 2 may keep odd pence). */
    private static void allIsGivenOrAsked() {
        int[] losses = {7, 0, 12, 3, 3, 25, 1, 9};
        int all = 60;
        for (int rule = 0; rule < 2; rule++) {
            for (int amount = 0; amount <= all + 2; amount++) {
                BeggingLetter x = new BeggingLetter();
                int sum = 0;
                for (int place = 0; place < 8; place++) {
                    int share = share(x, rule, amount, losses, place);
                    Due.holds("a share within its loss", share >= 0 && share <= losses[place]);
                    sum += share;
                }
                Due.is("all shares of " + amount + " by rule " + rule, sum, Math.min(amount, all));
            }
        }
    }

    private static void coins(int amount, int fewest, int ways, int greatest, int... all) {
        BeggingLetter x = new BeggingLetter();
        int[] due = {fewest, ways, greatest};
        for (int what = 0; what < 3; what++) {
            Due.feed(x, all);
            Due.is("coins for " + amount + ", what " + what, x.coins(all.length, amount, what), due[what]);
        }
    }

    /** "-3: a coin of 0", in each place, by each what, for each amount; behind the last it does not count. */
    private static void coinsOfNought() {
        for (int place = 0; place < 6; place++) {
            int[] all = {1, 2, 3, 4, 5, 6};
            all[place] = 0;
            coins(0, -3, -3, -3, all);
            coins(999, -3, -3, -3, all);
        }
        coins(0, -3, -3, -3, 0);
        BeggingLetter x = new BeggingLetter();
        Due.feed(x, 1, 0);
        Due.is("a 0 behind it", x.coins(1, 5, 0), 5);
    }

    /** Coins of 1 to 255 pence. */
    private static void coinBounds() {
        coins(1, 1, 1, 1, 1);
        coins(254, -2, 0, -2, 255);
        coins(255, 1, 1, 1, 255);
        coins(256, -2, 0, -2, 255);
        coins(509, -2, 0, -2, 255);
        coins(510, 2, 1, 2, 255);
        coins(765, 3, 1, 3, 255);
        coins(255, 1, 2, 1, 255, 1);
        coins(256, 2, 2, 2, 255, 1);
    }

    /** An amount of 0 to 999: 0 is paid by none, in one way. */
    private static void amounts() {
        coins(0, 0, 1, 0, 255);
        coins(0, 0, 1, 0, 1, 2, 3, 4, 5, 6);
        coins(1, -2, 0, -2, 2);
        coins(998, 499, 1, 499, 2);
        coins(999, -2, 0, -2, 2);
        coins(999, 333, 1, 333, 3);
        coins(998, 998, 1, 998, 1);
        coins(999, 999, 1, 999, 1);
        coins(999, 500, 500, 500, 1, 2);
    }

    /** Ways, "1000000000 at most": just below and just above. */
    private static void waysAtMost() {
        int below = 0;
        int above = 0;
        for (int amount = 600; amount <= 605; amount++) {
            BeggingLetter x = new BeggingLetter();
            Due.feed(x, 1, 2, 3, 4, 5, 6);
            int ways = x.coins(6, amount, 1);
            long due = ways(amount, 1, 2, 3, 4, 5, 6);
            Due.is("ways for " + amount, ways, Math.min(1000000000L, due));
            below += due < 1000000000L ? 1 : 0;
            above += due > 1000000000L ? 1 : 0;
        }
        Due.holds("some below", below > 0);
        Due.holds("some above", above > 0);
        coins(999, 167, 1000000000, 167, 1, 2, 3, 4, 5, 6);
        coins(999, 167, 1000000000, 167, 6, 5, 4, 3, 2, 1);
        coins(999, 333, 83667, 333, 1, 2, 3);
    }

    private static long ways(int amount, int... coins) {
        long[] ways = new long[amount + 1];
        ways[0] = 1;
        for (int coin : coins) {
            for (int sum = coin; sum <= amount; sum++) {
                ways[sum] += ways[sum - coin];
            }
        }
        return ways[amount];
    }

    /** "Coins alike in pence count once". */
    private static void coinsAlike() {
        coins(4, 2, 1, 2, 2, 2);
        coins(4, 2, 1, 2, 2, 2, 2, 2, 2, 2);
        coins(5, 2, 4, 2, 2, 1, 4, 2, 4, 4);
        coins(5, 1, 2, 1, 5, 1, 5, 1, 5, 1);
    }

    /** "By taking the greatest coin that fits each time (it may not come out)". */
    private static void greatestFirst() {
        coins(6, 2, 4, 3, 1, 3, 4);
        coins(6, 2, 1, -2, 3, 4);
        coins(8, 2, 2, 2, 4, 3, 5);
        coins(7, 2, 1, -2, 4, 3, 5);
        coins(5, 1, 1, 1, 4, 3, 5);
        coins(9, 2, 2, 2, 4, 3, 5);
        coins(3, 1, 1, 1, 4, 3, 5);
        coins(2, -2, 0, -2, 4, 3, 5);
        coins(63, 6, 1626, 6, 32, 16, 8, 4, 2, 1);
    }
}
