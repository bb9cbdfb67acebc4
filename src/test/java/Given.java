/** Objects that the tests begin with. */
final class Given {
    private Given() {
    }

    /** So many PARISHES from 0 on, of WEALTH 10 and their number. */
    static BeggingLetter parishes(int n) {
        BeggingLetter x = new BeggingLetter();
        for (int p = 0; p < n; p++) {
            x.parish(p, 10 + p);
        }
        return x;
    }

    /** PARISHES in a row with ROADS of 2 MILES; LETTER 0 of LOSS 100 begins in the first one. */
    static BeggingLetter row(int n) {
        BeggingLetter x = parishes(n);
        for (int p = 0; p + 1 < n; p++) {
            x.road(p, p + 1, 2);
        }
        x.letter(0, 0, 100);
        return x;
    }

    /** All PARISHES and all LETTERS, LETTER k with its HOME in PARISH k and a LOSS of 5000. */
    static BeggingLetter all() {
        BeggingLetter x = parishes(12);
        for (int k = 0; k < 6; k++) {
            x.letter(k, k, 5000);
        }
        return x;
    }

    /** A tape of so many bytes (twenties of them), all alike. */
    static BeggingLetter tape(int size, int sign) {
        return fed(new BeggingLetter(), size, sign);
    }

    static BeggingLetter fed(BeggingLetter x, int size, int sign) {
        int word = sign << 24 | sign << 16 | sign << 8 | sign;
        for (int i = 0; i < size; i += 20) {
            x.feed(word, word, word, word, word);
        }
        return x;
    }
}
