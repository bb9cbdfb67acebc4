/**
 * Burnt towns' letters that beg: they go from parish to parish by roads, told larger each time, are
 * read or held back by a law, and what is given comes to a fund till the town is rebuilt.
 *
 * <p>Every call answers, and none throws: what is refused is NONE or false. All rows are made with
 * the object, so that no call makes a new one.
 */
public final class BeggingLetter {
    /** There is none. */
    public static final int NONE = -1;

    private static final int NOT_SO = -2;
    private static final int UNFIT = -3;

    private static final int PARISHES = 12;
    private static final int LETTERS = 6;
    private static final int MOST_WEALTH = 99;
    private static final int MOST_MILES = 99;
    private static final int MOST_LOSS = 9999;
    private static final int MOST_MONTHS = 60;
    private static final int MOST_ROUND = 7;
    private static final int MOST_READ = 5;
    private static final int MOST_SEED = 65535;

    /** The what that asks for all of a row; others ask for one place of it. */
    private static final int WHOLE = 100;
    private static final int WHOLE_LAST = 101;
    private static final int WHOLE_WHERE = 102;
    /** From this what on a LETTER's own number is asked for. */
    private static final int OF_LETTER = 10;

    /** A FAULT is told as its number so many times, and its place, below 0. */
    private static final int FAULT_STEP = 1000;
    private static final int FAULT_SIGN = 1;
    private static final int FAULT_DIGITS = 2;
    private static final int FAULT_ROWS = 4;
    private static final int FAULT_OPEN = 5;
    private static final int FAULT_UNTOLD = 7;
    /** Stands for the sign behind a text's last one; no byte is like it. */
    private static final int END = -1;

    private final Tape tape = new Tape();
    private final Land land = new Land();
    private final Books books = new Books();
    private final Books kept = new Books();
    private final Books trial = new Books();
    private final Reader reader = new Reader();
    private final Report report = new Report();
    private final Foresight foresight = new Foresight();
    private final Copies copies = new Copies();
    private final Purse purse = new Purse();
    private Law law = new Law();
    private boolean isKept;

    public BeggingLetter() {
    }

    public boolean parish(int p, int wealth) {
        if (!isWithin(p, 0, PARISHES - 1) || !isWithin(wealth, 0, MOST_WEALTH)) {
            return false;
        }
        land.tell(p);
        books.wealth[p] = wealth;
        return true;
    }

    public boolean road(int p, int q, int miles) {
        if (!land.isTold(p) || !land.isTold(q) || p == q || !isWithin(miles, 0, MOST_MILES)) {
            return false;
        }
        land.lay(p, q, miles);
        return true;
    }

    public boolean letter(int k, int home, int loss) {
        if (!isLetter(k) || !land.isTold(home) || !isWithin(loss, 1, MOST_LOSS)) {
            return false;
        }
        books.begin(k, home, loss);
        return true;
    }

    public int feed(int a, int b, int c, int d, int e) {
        if (!tape.hasRoom()) {
            return NONE;
        }
        tape.put(a);
        tape.put(b);
        tape.put(c);
        tape.put(d);
        tape.put(e);
        return tape.size;
    }

    public int law(int n) {
        if (!tape.has(n, 1, Law.MOST_BYTES)) {
            return NONE;
        }
        int answer = reader.read(tape.take(), n);
        if (answer > 0) {
            law = reader.handOver(law);
        }
        return answer;
    }

    public int report(int n) {
        if (!tape.has(n, 1, Report.MOST_BYTES)) {
            return NONE;
        }
        int answer = report.read(tape.take(), n, books.told, land.told);
        for (int line = 0; line < answer && line < Report.MOST_LINES; line++) {
            books.note(report.letters[line], report.parishes[line], report.signs[line], report.numbers[line]);
        }
        return answer;
    }

    public boolean text(int k, int n) {
        if (!isLetter(k) || !tape.has(n, 1, Copies.MOST_BYTES)) {
            return false;
        }
        copies.write(k, tape.take(), n);
        return true;
    }

    public int months(int n) {
        if (!isWithin(n, 1, MOST_MONTHS)) {
            return NONE;
        }
        books.pass(n, land, law);
        return books.readings;
    }

    public int tried(int n, int what) {
        if (!isWithin(n, 1, MOST_MONTHS) || !(isWithin(what, 0, 3) || books.isTold(what - OF_LETTER))) {
            return NONE;
        }
        trial.copy(books);
        trial.pass(n, land, law);
        switch (what) {
            case 0:
                return trial.readings;
            case 1:
                return trial.heldBack;
            case 2:
                return trial.farmed - books.farmed;
            case 3:
                return trial.rebuilt - books.rebuilt;
            default:
                return trial.fundOf(what - OF_LETTER);
        }
    }

    public int parishIs(int p, int what) {
        if (!land.isTold(p)) {
            return NONE;
        }
        switch (what) {
            case 0:
                return books.wealth[p];
            case 1:
                return books.tired(p);
            case 2:
                return lettersAt(books.known, p);
            case 3:
                return lettersAt(books.read, p);
            default:
                return NONE;
        }
    }

    public int letterIs(int k, int what) {
        if (!books.isTold(k)) {
            return NONE;
        }
        switch (what) {
            case 0:
                return books.home[k];
            case 1:
                return books.loss[k];
            case 2:
                return books.fund[k];
            case 3:
                return books.isInForce(k) ? 1 : 0;
            case 4:
                return books.known[k];
            case 5:
                return books.read[k];
            default:
                return NONE;
        }
    }

    public int toldAt(int k, int p) {
        if (!books.isTold(k) || !land.isTold(p)) {
            return NONE;
        }
        return hasBit(books.known[k], p) ? books.tale[k][p] : NOT_SO;
    }

    public int spreads(int k, int what) {
        if (!books.isTold(k) || !(isWithin(what, WHOLE, WHOLE_WHERE) || land.isTold(what))) {
            return NONE;
        }
        if (!books.isInForce(k)) {
            return UNFIT;
        }
        trial.copy(books);
        foresight.spread(k, trial, land, law);
        switch (what) {
            case WHOLE:
                return foresight.howMany();
            case WHOLE_LAST:
                return foresight.behindIn(foresight.last());
            case WHOLE_WHERE:
                return foresight.last();
            default:
                return foresight.behindIn(what);
        }
    }

    public int miles(int p, int q) {
        if (!land.isTold(p) || !land.isTold(q)) {
            return NONE;
        }
        int miles = land.way(p, q);
        return miles < Land.NO_WAY ? miles : NOT_SO;
    }

    public int round(int from, int parishes, int what) {
        if (!land.isTold(from) || !isSome(parishes, land.told, MOST_ROUND) || hasBit(parishes, from)) {
            return NONE;
        }
        if (what != WHOLE && !isWithin(what, 0, Integer.bitCount(parishes) - 1)) {
            return NONE;
        }
        int miles = land.goRound(from, parishes);
        if (miles >= Land.NO_WAY) {
            return NOT_SO;
        }
        return what == WHOLE ? miles : land.stopAt(what);
    }

    public int readsMost(int p, int letters, int what) {
        if (!land.isTold(p) || !isSome(letters, books.told, MOST_READ)) {
            return NONE;
        }
        if (what != WHOLE && !isWithin(what, 0, Integer.bitCount(letters) - 1)) {
            return NONE;
        }
        int most = foresight.readMost(p, letters, books, law);
        return what == WHOLE ? most : foresight.readAt(letters, what);
    }

    public int bestMonth(int p, int k, int what) {
        if (!land.isTold(p) || !books.isTold(k) || !isWithin(what, 0, 1)) {
            return NONE;
        }
        int best = foresight.bestOf(p, k, books, law);
        return what == 0 ? best : foresight.bestGift;
    }

    public int tales(int k, int what) {
        if (!books.isTold(k) || !isWithin(what, 0, 2)) {
            return NONE;
        }
        if (what == 0) {
            return foresight.falseTales(k, books, land, law);
        }
        int where = books.largestTale(k);
        if (what == 2) {
            return where;
        }
        return isWithin(where, 0, PARISHES - 1) ? books.tale[k][where] - books.loss[k] : 0;
    }

    public int far(int k, int j) {
        if (!isLetter(k) || !isLetter(j)) {
            return NONE;
        }
        return copies.isWritten(k) && copies.isWritten(j) ? copies.apart(k, j) : NOT_SO;
    }

    public int nearest(int n, int what) {
        if (!isWithin(what, 0, 1) || !tape.has(n, 1, Copies.MOST_BYTES)) {
            return NONE;
        }
        int near = copies.nearestTo(tape.take(), n);
        return what == 0 || near < 0 ? near : copies.nearestBy;
    }

    public int fromWhom() {
        return copies.tree();
    }

    public int misspelt(int k, int j) {
        if (!isLetter(k) || !isLetter(j)) {
            return NONE;
        }
        return copies.isWritten(k) && copies.isWritten(j) ? copies.partAt(k, j) : NOT_SO;
    }

    public int bids(int n, int reserve, int what) {
        if (!isWithin(reserve, 0, 255) || !isWithin(what, 0, 1) || !tape.has(n, 1, Purse.MOST_BIDS)) {
            return NONE;
        }
        int[] offers = tape.take();
        int winner = purse.winner(offers, n);
        if (winner < 0 || offers[winner] < reserve) {
            return NOT_SO;
        }
        return what == 0 ? winner : purse.price(offers, n, winner, reserve);
    }

    public int divided(int n, int amount, int rule, int what) {
        if (!isWithin(n, 1, Purse.MOST_LOSERS) || !isWithin(amount, 0, MOST_LOSS)) {
            return NONE;
        }
        if (!isWithin(rule, 0, 2) || !isWithin(what, 0, n - 1) || !tape.has(2 * n, 2, 2 * n)) {
            return NONE;
        }
        if (!purse.takeLosses(tape.take(), n)) {
            return NOT_SO;
        }
        purse.divide(n, amount, rule);
        return purse.shares[what];
    }

    public int coins(int n, int amount, int what) {
        if (!isWithin(amount, 0, Purse.MOST_PENCE) || !isWithin(what, 0, 2)) {
            return NONE;
        }
        if (!tape.has(n, 1, Purse.MOST_COINS)) {
            return NONE;
        }
        if (!purse.takeCoins(tape.take(), n)) {
            return UNFIT;
        }
        switch (what) {
            case 0:
                return purse.fewest(amount);
            case 1:
                return purse.ways(amount);
            default:
                return purse.greatestFirst(amount);
        }
    }

    public int lent(int k, int n, int hundredths) {
        if (!books.isTold(k) || !isWithin(n, 1, MOST_MONTHS) || !isWithin(hundredths, 0, 10)) {
            return NONE;
        }
        trial.copy(books);
        trial.pass(n, land, law);
        int pledge = trial.fund[k] * 2 / 3;
        int interest = (pledge * hundredths * n + 99) / 100;
        return Math.max(0, pledge - interest);
    }

    public boolean seed(int x) {
        if (!isWithin(x, 0, MOST_SEED)) {
            return false;
        }
        books.x = x;
        return true;
    }

    public int keep() {
        kept.copy(books);
        isKept = true;
        return books.month;
    }

    public boolean undo() {
        if (!isKept) {
            return false;
        }
        books.copy(kept);
        return true;
    }

    public int check(int n) {
        if (!tape.has(n, 0, PARISHES)) {
            return NOT_SO;
        }
        int[] said = tape.take();
        for (int p = 0; p < n && p < PARISHES; p++) {
            if (said[p] != books.wealth[p]) {
                return p;
            }
        }
        return NONE;
    }

    public int count(int what) {
        switch (what) {
            case 0:
                return books.month;
            case 1:
                return books.rebuilt;
            case 2:
                return books.farmed;
            case 3:
                return land.told;
            case 4:
                return books.told;
            case 5:
                return books.force;
            case 6:
                return law.rules;
            case 7:
                return tape.size;
            case 8:
                return books.x;
            case 9:
                return copies.written();
            default:
                return copies.isWritten(what - OF_LETTER) ? copies.sizes[what - OF_LETTER] : NONE;
        }
    }

    private static boolean isWithin(int number, int least, int most) {
        return number >= least && number <= most;
    }

    private static boolean isLetter(int k) {
        return isWithin(k, 0, LETTERS - 1);
    }

    private static boolean isDigit(int sign) {
        return sign >= '0' && sign <= '9';
    }

    private static boolean hasBit(int bits, int place) {
        return ((bits >> place) & 1) == 1;
    }

    /** Whether bits are one to most of those in told, and none else. */
    private static boolean isSome(int bits, int told, int most) {
        return bits != 0 && (bits & ~told) == 0 && Integer.bitCount(bits) <= most;
    }

    /** The LETTERS (bits) that have PARISH p among the PARISHES (bits) of their row. */
    private static int lettersAt(int[] parishesOf, int p) {
        int letters = 0;
        for (int k = 0; k < LETTERS && k < parishesOf.length; k++) {
            if (hasBit(parishesOf[k], p)) {
                letters |= 1 << k;
            }
        }
        return letters;
    }

    /** The bytes that are fed, till a call takes them. */
    private static final class Tape {
        private static final int MOST = 260;
        private static final int FED = 20;
        private final int[] bytes = new int[MOST];
        private int size;

        boolean hasRoom() {
            return size + FED <= MOST;
        }

        void put(int word) {
            for (int shift = 24; shift >= 0 && size < MOST; shift -= 8) {
                bytes[size] = (word >>> shift) & 255;
                size++;
            }
        }

        boolean has(int n, int least, int most) {
            return isWithin(n, least, most) && n <= size;
        }

        /** Empties the tape; its bytes stand in the row till the next ones are fed. */
        int[] take() {
            size = 0;
            return bytes;
        }
    }

    /** PARISHES that are told, and the ROADS between them: what is not undone. */
    private static final class Land {
        /** More than any way has MILES, so low that a whole ROUND of them can be added up. */
        private static final int NO_WAY = 1000000;
        private static final int STOPS = MOST_ROUND + 1;

        private int told;
        private final int[][] roads = new int[PARISHES][PARISHES];
        private final int[][] ways = new int[PARISHES][PARISHES];
        private boolean areWaysKnown;
        /** The PARISHES of a ROUND, rising; behind them the one it sets out from. */
        private final int[] stops = new int[STOPS];
        private int stopCount;
        /** By what is left of a ROUND (bits of stops) and where it stands: the fewest MILES ahead. */
        private final int[] ahead = new int[(1 << MOST_ROUND) * STOPS];

        boolean isTold(int p) {
            return isWithin(p, 0, PARISHES - 1) && hasBit(told, p);
        }

        void tell(int p) {
            told |= 1 << p;
        }

        void lay(int p, int q, int miles) {
            roads[p][q] = miles;
            roads[q][p] = miles;
            areWaysKnown = false;
        }

        int way(int p, int q) {
            if (!areWaysKnown) {
                findWays();
                areWaysKnown = true;
            }
            return ways[p][q];
        }

        private void findWays() {
            for (int p = 0; p < PARISHES; p++) {
                for (int q = 0; q < PARISHES; q++) {
                    ways[p][q] = roads[p][q] > 0 ? roads[p][q] : NO_WAY;
                }
                ways[p][p] = 0;
            }
            for (int by = 0; by < PARISHES; by++) {
                for (int p = 0; p < PARISHES; p++) {
                    for (int q = 0; q < PARISHES; q++) {
                        ways[p][q] = Math.min(ways[p][q], ways[p][by] + ways[by][q]);
                    }
                }
            }
        }

        /** The MILES of the shortest ROUND; NO_WAY or more if there is none. */
        int goRound(int from, int parishes) {
            stopCount = 0;
            for (int p = 0; p < PARISHES; p++) {
                if (hasBit(parishes, p) && stopCount < MOST_ROUND) {
                    stops[stopCount] = p;
                    stopCount++;
                }
            }
            stops[stopCount] = from;
            int all = (1 << stopCount) - 1;
            for (int left = 0; left <= all; left++) {
                for (int at = 0; at <= stopCount; at++) {
                    ahead[left * STOPS + at] = fewestAhead(left, at);
                }
            }
            return ahead[all * STOPS + stopCount];
        }

        private int fewestAhead(int left, int at) {
            if (left == 0) {
                return way(stops[at], stops[stopCount]);
            }
            int fewest = NO_WAY;
            for (int next = 0; next < stopCount; next++) {
                if (hasBit(left, next)) {
                    fewest = Math.min(fewest, aheadBy(left, at, next));
                }
            }
            return fewest;
        }

        private int aheadBy(int left, int at, int next) {
            return way(stops[at], stops[next]) + ahead[(left ^ (1 << next)) * STOPS + next];
        }

        /** The PARISH at a place of the ROUND that was gone last: the lowest one by which it can be. */
        int stopAt(int place) {
            int at = stopCount;
            int left = (1 << stopCount) - 1;
            for (int i = 0; i <= place && i < stopCount; i++) {
                at = nextStop(left, at);
                if (at < 0) {
                    return NONE;
                }
                left ^= 1 << at;
            }
            return stops[at];
        }

        private int nextStop(int left, int at) {
            int fewest = ahead[left * STOPS + at];
            for (int next = 0; next < stopCount; next++) {
                if (hasBit(left, next) && aheadBy(left, at, next) == fewest) {
                    return next;
                }
            }
            return NONE;
        }
    }

    /** All that is KEPT and UNDONE, and how MONTHS go by in it. */
    private static final class Books {
        private static final int MOST_TALE = 99999;
        private static final int MOST_FUND = 999999;
        private static final int MOST_MONTH = 9999;
        private static final int REMEMBERED = 3;

        private final int[] wealth = new int[PARISHES];
        private int told;
        private int force;
        private final int[] home = new int[LETTERS];
        private final int[] loss = new int[LETTERS];
        private final int[] fund = new int[LETTERS];
        private final int[] known = new int[LETTERS];
        private final int[] read = new int[LETTERS];
        private final int[][] tale = new int[LETTERS][PARISHES];
        /** PARISHES (bits) that READ one, by how many MONTHS ago: none READS more than one a MONTH. */
        private final int[] readers = new int[REMEMBERED];
        private int farmed;
        private int month;
        private int rebuilt;
        private int x = 1;
        /** What was READ and held back in the MONTHS that went by last. */
        private int readings;
        private int heldBack;

        void copy(Books from) {
            System.arraycopy(from.wealth, 0, wealth, 0, PARISHES);
            System.arraycopy(from.home, 0, home, 0, LETTERS);
            System.arraycopy(from.loss, 0, loss, 0, LETTERS);
            System.arraycopy(from.fund, 0, fund, 0, LETTERS);
            System.arraycopy(from.known, 0, known, 0, LETTERS);
            System.arraycopy(from.read, 0, read, 0, LETTERS);
            System.arraycopy(from.readers, 0, readers, 0, REMEMBERED);
            for (int k = 0; k < LETTERS; k++) {
                System.arraycopy(from.tale[k], 0, tale[k], 0, PARISHES);
            }
            told = from.told;
            force = from.force;
            farmed = from.farmed;
            month = from.month;
            rebuilt = from.rebuilt;
            x = from.x;
        }

        boolean isTold(int k) {
            return isLetter(k) && hasBit(told, k);
        }

        boolean isInForce(int k) {
            return isLetter(k) && hasBit(force, k);
        }

        int fundOf(int k) {
            return isLetter(k) ? fund[k] : NONE;
        }

        void begin(int k, int at, int lost) {
            told |= 1 << k;
            force |= 1 << k;
            home[k] = at;
            loss[k] = lost;
            fund[k] = 0;
            known[k] = 1 << at;
            read[k] = 0;
            tale[k][at] = lost;
        }

        /** One LINE of a REPORT. */
        void note(int k, int p, int sign, int number) {
            int bit = 1 << p;
            if (sign == ':') {
                known[k] |= bit;
                tale[k][p] = number;
            } else if (sign == '+') {
                give(k, p, number);
            } else {
                known[k] &= ~bit;
                read[k] &= ~bit;
            }
        }

        private void give(int k, int p, int pence) {
            int share = (pence * 2 + 2) / 3;
            fund[k] = Math.min(MOST_FUND, fund[k] + share);
            farmed = Math.min(MOST_FUND, farmed + pence - share);
            read[k] |= 1 << p;
        }

        int tired(int p) {
            return tiredBehind(p, 0, 0);
        }

        /** TIRED behind so many MONTHS more, in each of which so many would be READ. */
        int tiredBehind(int p, int months, int eachMonth) {
            int tired = 0;
            for (int ago = 0; ago < REMEMBERED; ago++) {
                if (ago < months) {
                    tired += eachMonth;
                } else {
                    tired += (readers[ago - months] >> p) & 1;
                }
            }
            return tired;
        }

        /** The LOSS as it is KNOWN in a PARISH; where it is not, as it is in truth. */
        int taleOrLoss(int k, int p) {
            return hasBit(known[k], p) ? tale[k][p] : loss[k];
        }

        /** What would be given in a PARISH that is so TIRED, so many MONTHS from now. */
        int giftBehind(int months, int p, int k, int tired, Law law) {
            law.askOf(p, wealth[p], tired, k);
            law.askBy(taleOrLoss(k, p), 0, month + months);
            return law.number('g', Law.MOST_GIVEN);
        }

        /** A LOSS as PARISH p tells it that hears it told by a ROAD. */
        int tellOn(int k, int p, int heard, int miles, Law law) {
            law.askOf(p, wealth[p], tired(p), k);
            law.askBy(heard, miles, month);
            return Math.min(MOST_TALE, heard + law.number('t', Law.MOST_TOLD));
        }

        void pass(int n, Land land, Law law) {
            readings = 0;
            heldBack = 0;
            for (int i = 0; i < n && month < MOST_MONTH; i++) {
                for (int k = 0; k < LETTERS; k++) {
                    if (isInForce(k)) {
                        spread(k, land, law);
                    }
                }
                int readNow = 0;
                for (int p = 0; p < PARISHES; p++) {
                    if (land.isTold(p) && readOne(p, law)) {
                        readNow |= 1 << p;
                    }
                }
                rebuild();
                remember(readNow);
                month++;
            }
        }

        /** Step (1) of a MONTH, for one LETTER. */
        void spread(int k, Land land, Law law) {
            int sources = known[k];
            for (int p = 0; p < PARISHES; p++) {
                if (land.isTold(p) && !hasBit(sources, p)) {
                    int q = sourceFor(k, p, sources, land, law);
                    if (q >= 0) {
                        tale[k][p] = tellOn(k, p, tale[k][q], land.roads[q][p], law);
                        known[k] |= 1 << p;
                    }
                }
            }
        }

        /** From where a PARISH hears of a LETTER that was KNOWN in the sources (bits); NONE: it does not. */
        private int sourceFor(int k, int p, int sources, Land land, Law law) {
            int source = NONE;
            int fewest = MOST_MILES + 1;
            law.askOf(p, wealth[p], tired(p), k);
            for (int q = 0; q < PARISHES; q++) {
                int miles = land.roads[q][p];
                if (hasBit(sources, q) && miles > 0 && miles < fewest) {
                    law.askBy(tale[k][q], miles, month);
                    if (!law.shuts()) {
                        source = q;
                        fewest = miles;
                    }
                }
            }
            return source;
        }

        /** Step (2) of a MONTH, for one PARISH; true: a LETTER is READ. */
        private boolean readOne(int p, Law law) {
            int k = lowestUnread(p);
            if (k < 0) {
                return false;
            }
            law.askOf(p, wealth[p], tired(p), k);
            law.askBy(tale[k][p], 0, month);
            if (draw() < law.number('h', Law.MOST_HELD)) {
                heldBack++;
                return false;
            }
            give(k, p, law.number('g', Law.MOST_GIVEN));
            readings++;
            return true;
        }

        private int lowestUnread(int p) {
            for (int k = 0; k < LETTERS; k++) {
                if (isInForce(k) && hasBit(known[k] & ~read[k], p)) {
                    return k;
                }
            }
            return NONE;
        }

        private int draw() {
            x = (25173 * x + 13849) % 65536;
            return x % 10;
        }

        private void rebuild() {
            for (int k = 0; k < LETTERS; k++) {
                if (isInForce(k) && fund[k] >= loss[k]) {
                    force ^= 1 << k;
                    rebuilt++;
                }
            }
        }

        private void remember(int readNow) {
            for (int ago = REMEMBERED - 1; ago > 0; ago--) {
                readers[ago] = readers[ago - 1];
            }
            readers[0] = readNow;
        }

        /** The PARISH where a LETTER is told largest; NOT_SO if nowhere larger than in truth. */
        int largestTale(int k) {
            int where = NOT_SO;
            int largest = loss[k];
            for (int p = 0; p < PARISHES; p++) {
                if (hasBit(known[k], p) && tale[k][p] > largest) {
                    where = p;
                    largest = tale[k][p];
                }
            }
            return where;
        }
    }

    /** THE LAW, its RULES turned so that each sign stands behind what it joins. */
    private static final class Law {
        private static final int MOST_BYTES = 240;
        private static final int MOST_RULES = 16;
        private static final int MOST_GIVEN = 999;
        private static final int MOST_TOLD = 999;
        private static final int MOST_HELD = 10;
        private static final int MONTHS_OF_YEAR = 12;
        /** Outside of 32 bits, so that no number is like it. */
        private static final long REFUSED = 1L << 40;
        /** Six that are open in one another leave 16 numbers that wait at most. */
        private static final int MOST_WAITING = 32;
        private static final int ABC = 26;

        private int rules;
        private final int[] kinds = new int[MOST_RULES];
        /** Where in the code the E of a RULE begins, its C, and where that ends. */
        private final int[] sums = new int[MOST_RULES];
        private final int[] tests = new int[MOST_RULES];
        private final int[] ends = new int[MOST_RULES];
        /** Numbers as they are; letters and signs below 0. */
        private final int[] code = new int[MOST_BYTES];
        private int size;
        private final long[] waiting = new long[MOST_WAITING];
        /** What the letters mean, by their place in the ABC. */
        private final int[] facts = new int[ABC];

        void clear() {
            rules = 0;
            size = 0;
        }

        void add(int item) {
            if (size < MOST_BYTES) {
                code[size] = item;
                size++;
            }
        }

        void askOf(int p, int wealth, int tired, int k) {
            facts['p' - 'a'] = p;
            facts['w' - 'a'] = wealth;
            facts['r' - 'a'] = tired;
            facts['k' - 'a'] = k;
        }

        void askBy(int told, int miles, int month) {
            facts['l' - 'a'] = told;
            facts['d' - 'a'] = miles;
            facts['m' - 'a'] = month % MONTHS_OF_YEAR;
        }

        /** The E, held within 0 and most, of the first RULE of a kind whose C holds. */
        int number(int kind, int most) {
            for (int rule = 0; rule < rules && rule < MOST_RULES; rule++) {
                if (kinds[rule] == kind && worth(tests[rule], ends[rule]) == 1) {
                    long sum = worth(sums[rule], tests[rule]);
                    return sum == REFUSED ? 0 : (int) Math.max(0, Math.min(most, sum));
                }
            }
            return 0;
        }

        /** Whether a PARISH does not hear, by any RULE of x. */
        boolean shuts() {
            for (int rule = 0; rule < rules && rule < MOST_RULES; rule++) {
                if (kinds[rule] == 'x' && worth(tests[rule], ends[rule]) == 1) {
                    return true;
                }
            }
            return false;
        }

        private long worth(int from, int end) {
            int top = 0;
            for (int i = from; i < end && i < MOST_BYTES; i++) {
                int item = code[i];
                if (item >= 0 || isFact(-item)) {
                    if (top < MOST_WAITING) {
                        waiting[top] = item >= 0 ? item : facts[-item - 'a'];
                        top++;
                    }
                } else if (item == -'!') {
                    if (top > 0 && waiting[top - 1] != REFUSED) {
                        waiting[top - 1] = 1 - waiting[top - 1];
                    }
                } else if (top > 1) {
                    top--;
                    waiting[top - 1] = joined(-item, waiting[top - 1], waiting[top]);
                }
            }
            return top > 0 ? waiting[top - 1] : REFUSED;
        }

        private static boolean isFact(int sign) {
            return sign >= 'a' && sign <= 'z';
        }

        /** What is behind & and | is reckoned always, but counts only where it would be asked. */
        private static long joined(int sign, long left, long right) {
            if (sign == '&') {
                return left == 1 ? right : left;
            }
            if (sign == '|') {
                return left == 0 ? right : left;
            }
            if (left == REFUSED || right == REFUSED) {
                return REFUSED;
            }
            switch (sign) {
                case '+':
                    return (int) (left + right);
                case '-':
                    return (int) (left - right);
                case '*':
                    return (int) (left * right);
                case '/':
                    return right == 0 ? REFUSED : (int) (left / right);
                case '%':
                    return right == 0 ? REFUSED : (int) (left % right);
                case '<':
                    return left < right ? 1 : 0;
                case '>':
                    return left > right ? 1 : 0;
                default:
                    return left == right ? 1 : 0;
            }
        }
    }

    /** Reads a TEXT as THE LAW, from the left, up to the first FAULT. */
    private static final class Reader {
        private static final int MOST_DIGITS = 5;
        private static final int MOST_OPEN = 6;
        /** Levels: a C, and two below it, behind its PARTS, a TEST. */
        private static final int ANY = 0;
        private static final int TEST = 2;
        /** Levels: an E, and two below it, behind its TERMS, a FACTOR. */
        private static final int SUM = 0;
        private static final int FACTOR = 2;
        private static final String KINDS = "gthx";
        private static final String FACTS = "pwrkldm";
        private static final String SUM_SIGNS = "+-";
        private static final String TERM_SIGNS = "*/%";
        private static final String TEST_SIGNS = "<>=";

        private int[] text = new int[0];
        private int length;
        private int at;
        private int fault;
        /** A LAW that is not in force: what is read comes into it. */
        private Law draft = new Law();

        /** The LAW that was read, for the one before, whose rows the next one is read into. */
        Law handOver(Law former) {
            Law read = draft;
            draft = former;
            return read;
        }

        /** How many RULES there are, or the FAULT. */
        int read(int[] bytes, int n) {
            text = bytes;
            length = Math.min(n, bytes.length);
            at = 0;
            fault = 0;
            draft.clear();
            for (int rule = 0; rule <= Law.MOST_RULES; rule++) {
                readRule(rule);
                if (fault != 0) {
                    return fault;
                }
                if (at == length) {
                    return rule + 1;
                }
                pass(';');
            }
            return fault;
        }

        private void readRule(int rule) {
            int kind = here();
            if (fault != 0 || !isOf(KINDS, kind)) {
                fail(FAULT_SIGN);
                return;
            }
            if (rule >= Law.MOST_RULES) {
                fail(FAULT_ROWS);
                return;
            }
            at++;
            draft.rules = rule + 1;
            draft.kinds[rule] = kind;
            draft.sums[rule] = draft.size;
            if (kind != 'x') {
                readSum(SUM, 0);
            }
            draft.tests[rule] = draft.size;
            pass('(');
            readCondition(ANY, 1);
            pass(')');
            draft.ends[rule] = draft.size;
        }

        /** A C, a PART of it, or a TEST, within so many that are open. */
        private void readCondition(int level, int open) {
            if (fault != 0) {
                return;
            }
            if (level >= TEST) {
                readTest(open);
                return;
            }
            int joint = level == ANY ? '|' : '&';
            readCondition(level + 1, open);
            for (int i = 0; i < Law.MOST_BYTES && fault == 0 && here() == joint; i++) {
                at++;
                readCondition(level + 1, open);
                draft.add(-joint);
            }
        }

        private void readTest(int open) {
            int sign = here();
            boolean opens = sign == '!' || sign == '(';
            if (opens && open >= MOST_OPEN) {
                fail(FAULT_OPEN);
            } else if (sign == '!') {
                at++;
                readCondition(TEST, open + 1);
                draft.add(-sign);
            } else if (sign == '(') {
                at++;
                readCondition(ANY, open + 1);
                pass(')');
            } else {
                readSum(SUM, open);
                int compared = here();
                if (fault != 0 || !isOf(TEST_SIGNS, compared)) {
                    fail(FAULT_SIGN);
                    return;
                }
                at++;
                readSum(SUM, open);
                draft.add(-compared);
            }
        }

        /** An E, a TERM of it, or a FACTOR, within so many that are open. */
        private void readSum(int level, int open) {
            if (fault != 0) {
                return;
            }
            if (level >= FACTOR) {
                readFactor(open);
                return;
            }
            String joints = level == SUM ? SUM_SIGNS : TERM_SIGNS;
            readSum(level + 1, open);
            for (int i = 0; i < Law.MOST_BYTES && fault == 0 && isOf(joints, here()); i++) {
                int joint = here();
                at++;
                readSum(level + 1, open);
                draft.add(-joint);
            }
        }

        private void readFactor(int open) {
            int sign = here();
            if (isOf(FACTS, sign)) {
                at++;
                draft.add(-sign);
            } else if (sign == '[' && open >= MOST_OPEN) {
                fail(FAULT_OPEN);
            } else if (sign == '[') {
                at++;
                readSum(SUM, open + 1);
                pass(']');
            } else if (isDigit(sign)) {
                int number = 0;
                for (int digits = 0; digits < MOST_DIGITS && isDigit(here()); digits++) {
                    number = number * 10 + here() - '0';
                    at++;
                }
                draft.add(number);
                if (isDigit(here())) {
                    fail(FAULT_DIGITS);
                }
            } else {
                fail(FAULT_SIGN);
            }
        }

        private void pass(int sign) {
            if (fault == 0 && here() == sign) {
                at++;
            } else {
                fail(FAULT_SIGN);
            }
        }

        /** Tells a FAULT here, but for when there was one before. */
        private void fail(int number) {
            if (fault == 0) {
                fault = -FAULT_STEP * number - at;
            }
        }

        private int here() {
            return at >= 0 && at < length && at < text.length ? text[at] : END;
        }

        private static boolean isOf(String signs, int sign) {
            return sign > 0 && signs.indexOf((char) sign) >= 0;
        }
    }

    /** Reads a TEXT as a REPORT, from the left, up to the first FAULT. */
    private static final class Report {
        private static final int MOST_BYTES = 120;
        private static final int MOST_LINES = 20;
        private static final int MOST_DIGITS = 4;

        private final int[] letters = new int[MOST_LINES];
        private final int[] parishes = new int[MOST_LINES];
        private final int[] signs = new int[MOST_LINES];
        private final int[] numbers = new int[MOST_LINES];
        private int[] text = new int[0];
        private int length;
        private int at;
        private int fault;

        /** How many LINES there are, or the FAULT. */
        int read(int[] bytes, int n, int toldLetters, int toldParishes) {
            text = bytes;
            length = Math.min(n, bytes.length);
            at = 0;
            fault = 0;
            for (int line = 0; line <= MOST_LINES; line++) {
                readLetter(line, toldLetters);
                readParish(line, toldParishes);
                readSaid(line);
                if (fault == 0 && at == length) {
                    return line + 1;
                }
                if (here() != ';') {
                    fail(FAULT_SIGN);
                }
                if (fault != 0) {
                    return fault;
                }
                at++;
            }
            return fault;
        }

        private void readLetter(int line, int told) {
            int letter = here() - 'A';
            if (!isLetter(letter)) {
                fail(FAULT_SIGN);
            } else if (line >= MOST_LINES) {
                fail(FAULT_ROWS);
            } else if (!hasBit(told, letter)) {
                fail(FAULT_UNTOLD);
            } else {
                letters[line] = letter;
                at++;
            }
        }

        private void readParish(int line, int told) {
            if (fault != 0 || line >= MOST_LINES) {
                return;
            }
            int parish = here() - 'a';
            if (!isWithin(parish, 0, PARISHES - 1)) {
                fail(FAULT_SIGN);
            } else if (!hasBit(told, parish)) {
                fail(FAULT_UNTOLD);
            } else {
                parishes[line] = parish;
                at++;
            }
        }

        private void readSaid(int line) {
            if (fault != 0 || line >= MOST_LINES) {
                return;
            }
            int sign = here();
            if (sign != ':' && sign != '+' && sign != '!') {
                fail(FAULT_SIGN);
                return;
            }
            at++;
            signs[line] = sign;
            numbers[line] = sign == '!' ? 0 : readNumber();
        }

        private int readNumber() {
            int number = 0;
            if (!isDigit(here())) {
                fail(FAULT_SIGN);
            }
            for (int digits = 0; digits < MOST_DIGITS && isDigit(here()); digits++) {
                number = number * 10 + here() - '0';
                at++;
            }
            if (isDigit(here())) {
                fail(FAULT_DIGITS);
            }
            return number;
        }

        /** Tells a FAULT here, but for when there was one before. */
        private void fail(int number) {
            if (fault == 0) {
                fault = -FAULT_STEP * number - at;
            }
        }

        private int here() {
            return at >= 0 && at < length && at < text.length ? text[at] : END;
        }
    }

    /** What would come: how a LETTER spreads, what is best READ when, which tales can't be true. */
    private static final class Foresight {
        private static final int MOST_SPREAD = 100;
        private static final int YEAR = 12;
        private static final int MOST_ROADS = 4;

        /** SPREADS: by PARISH, behind how many MONTHS; NOT_SO: never. */
        private final int[] behind = new int[PARISHES];
        /** READS MOST: by place and LETTER, what is given. */
        private final int[][] gifts = new int[MOST_READ][LETTERS];
        /** READS MOST: by the LETTERS (bits) that are left, the most that is given for them. */
        private final int[] most = new int[1 << LETTERS];
        private int bestGift;
        /** TALES: PARISHES (bits) where it is told as large as no way that was followed makes it. */
        private int unproved;

        /** The trial is one in which the LETTER may spread. */
        void spread(int k, Books trial, Land land, Law law) {
            for (int p = 0; p < PARISHES; p++) {
                behind[p] = hasBit(trial.known[k], p) ? 0 : NOT_SO;
            }
            int barren = 0;
            // All that changes from MONTH to MONTH is m: a year without news is followed by like ones.
            for (int months = 1; months <= MOST_SPREAD && barren < YEAR; months++) {
                int before = trial.known[k];
                trial.spread(k, land, law);
                trial.month++;
                barren = trial.known[k] == before ? barren + 1 : 0;
                for (int p = 0; p < PARISHES; p++) {
                    if (hasBit(trial.known[k] & ~before, p)) {
                        behind[p] = months;
                    }
                }
            }
        }

        int howMany() {
            int parishes = 0;
            for (int p = 0; p < PARISHES; p++) {
                if (behind[p] >= 0) {
                    parishes++;
                }
            }
            return parishes;
        }

        int last() {
            int last = NOT_SO;
            for (int p = 0; p < PARISHES; p++) {
                if (behind[p] > behindIn(last)) {
                    last = p;
                }
            }
            return last;
        }

        int behindIn(int p) {
            return isWithin(p, 0, PARISHES - 1) ? behind[p] : NOT_SO;
        }

        /** How much is given if the LETTERS (bits) are read in the best order. */
        int readMost(int p, int letters, Books books, Law law) {
            int all = Integer.bitCount(letters);
            for (int place = 0; place < all && place < MOST_READ; place++) {
                int tired = books.tiredBehind(p, place, 1);
                for (int k = 0; k < LETTERS; k++) {
                    gifts[place][k] = hasBit(letters, k) ? books.giftBehind(place, p, k, tired, law) : 0;
                }
            }
            most[0] = 0;
            for (int left = 1; left <= letters && left < most.length; left++) {
                if ((left & ~letters) == 0) {
                    most[left] = mostOf(left, all - Integer.bitCount(left));
                }
            }
            return isWithin(letters, 0, most.length - 1) ? most[letters] : 0;
        }

        private int mostOf(int left, int place) {
            int best = 0;
            for (int k = 0; k < LETTERS; k++) {
                if (hasBit(left, k)) {
                    best = Math.max(best, giftsFrom(left, place, k));
                }
            }
            return best;
        }

        private int giftsFrom(int left, int place, int k) {
            return isWithin(place, 0, MOST_READ - 1) ? gifts[place][k] + most[left ^ (1 << k)] : 0;
        }

        /** The LETTER at a place of the best order: the lowest one by which it can be. */
        int readAt(int letters, int place) {
            int left = letters;
            int letter = NONE;
            for (int i = 0; i <= place && i < MOST_READ; i++) {
                letter = nextRead(left, i);
                if (letter < 0) {
                    return NONE;
                }
                left ^= 1 << letter;
            }
            return letter;
        }

        private int nextRead(int left, int place) {
            for (int k = 0; k < LETTERS; k++) {
                if (hasBit(left, k) && giftsFrom(left, place, k) == most[left]) {
                    return k;
                }
            }
            return NONE;
        }

        /** How many MONTHS from now is best to read a LETTER; bestGift is what is given then. */
        int bestOf(int p, int k, Books books, Law law) {
            int best = 0;
            bestGift = NONE;
            for (int months = 0; months < YEAR; months++) {
                int gift = books.giftBehind(months, p, k, books.tiredBehind(p, months, 0), law);
                if (gift > bestGift) {
                    bestGift = gift;
                    best = months;
                }
            }
            return best;
        }

        /** PARISHES (bits) where a LETTER is KNOWN as it can't be. */
        int falseTales(int k, Books books, Land land, Law law) {
            int tooSmall = 0;
            for (int p = 0; p < PARISHES; p++) {
                if (hasBit(books.known[k], p) && books.tale[k][p] < books.loss[k]) {
                    tooSmall |= 1 << p;
                }
            }
            unproved = books.known[k] & ~tooSmall;
            follow(k, books.home[k], books.loss[k], 0, books, land, law);
            return tooSmall | unproved;
        }

        /** Goes on from a PARISH where so much is told, by all ways through none that was passed (bits). */
        private void follow(int k, int p, int told, int passed, Books books, Land land, Law law) {
            if (books.tale[k][p] <= told) {
                unproved &= ~(1 << p);
            }
            int here = passed | (1 << p);
            int road = Integer.bitCount(here);
            // Most ways have all their ROADS: the last of them is worth asking only where it may prove a tale.
            for (int q = 0; q < PARISHES && road <= MOST_ROADS && unproved != 0; q++) {
                int miles = land.roads[p][q];
                if (miles > 0 && !hasBit(here, q) && (road < MOST_ROADS || hasBit(unproved, q))) {
                    follow(k, q, books.tellOn(k, q, told, miles, law), here, books, land, law);
                }
            }
        }
    }

    /** The TEXTS of LETTERS, and how they were copied. */
    private static final class Copies {
        private static final int MOST_BYTES = 40;

        private final int[][] texts = new int[LETTERS][MOST_BYTES];
        private final int[] sizes = new int[LETTERS];
        private final int[] row = new int[MOST_BYTES + 1];
        /** FROM WHOM: by LETTER, how far it is from the nearest one in the tree. */
        private final int[] toTree = new int[LETTERS];
        private int nearestBy;

        void write(int k, int[] bytes, int n) {
            sizes[k] = Math.min(n, MOST_BYTES);
            System.arraycopy(bytes, 0, texts[k], 0, sizes[k]);
        }

        boolean isWritten(int k) {
            return isLetter(k) && sizes[k] > 0;
        }

        int written() {
            int letters = 0;
            for (int k = 0; k < LETTERS; k++) {
                if (isWritten(k)) {
                    letters |= 1 << k;
                }
            }
            return letters;
        }

        int apart(int k, int j) {
            return changes(texts[k], sizes[k], j);
        }

        /** The fewest changes by which the first n bytes become the TEXT of LETTER j. */
        private int changes(int[] bytes, int n, int j) {
            int[] other = texts[j];
            int size = sizes[j];
            for (int i = 0; i <= size; i++) {
                row[i] = i;
            }
            for (int b = 0; b < n && b < MOST_BYTES; b++) {
                int corner = row[0];
                row[0] = b + 1;
                for (int i = 0; i < size; i++) {
                    int changed = corner + (bytes[b] == other[i] ? 0 : 1);
                    corner = row[i + 1];
                    row[i + 1] = Math.min(changed, Math.min(corner, row[i]) + 1);
                }
            }
            return row[size];
        }

        /** The LETTER that is nearest to the first n bytes; nearestBy is how far it is. */
        int nearestTo(int[] bytes, int n) {
            int nearest = NOT_SO;
            nearestBy = 2 * MOST_BYTES;
            for (int k = 0; k < LETTERS; k++) {
                if (isWritten(k)) {
                    int by = changes(bytes, n, k);
                    if (by < nearestBy) {
                        nearest = k;
                        nearestBy = by;
                    }
                }
            }
            return nearest;
        }

        /** All changes of the tree that needs the fewest, by taking the nearest LETTER into it each time. */
        int tree() {
            int left = written();
            if (left == 0) {
                return NOT_SO;
            }
            int joined = lowest(left);
            for (int k = 0; k < LETTERS; k++) {
                toTree[k] = MOST_BYTES;
            }
            int all = 0;
            left ^= 1 << joined;
            for (int i = 0; i < LETTERS && left != 0; i++) {
                joined = nearestOf(left, joined);
                left ^= 1 << joined;
                all += toTree[joined];
            }
            return all;
        }

        private static int lowest(int letters) {
            int k = 0;
            while (k < LETTERS - 1 && !hasBit(letters, k)) {
                k++;
            }
            return k;
        }

        /** Of those left (bits) the nearest to the tree, which LETTER joined has come to. */
        private int nearestOf(int left, int joined) {
            int nearest = lowest(left);
            for (int k = 0; k < LETTERS; k++) {
                if (hasBit(left, k)) {
                    toTree[k] = Math.min(toTree[k], apart(k, joined));
                    if (toTree[k] < toTree[nearest]) {
                        nearest = k;
                    }
                }
            }
            return nearest;
        }

        /** The first place at which two TEXTS part; NOT_SO if they are alike. */
        int partAt(int k, int j) {
            int shorter = Math.min(sizes[k], sizes[j]);
            for (int i = 0; i < shorter && i < MOST_BYTES; i++) {
                if (texts[k][i] != texts[j][i]) {
                    return i;
                }
            }
            return sizes[k] == sizes[j] ? NOT_SO : shorter;
        }
    }

    /** BIDS, what is DIVIDED, and COINS. */
    private static final class Purse {
        private static final int MOST_BIDS = 12;
        private static final int MOST_LOSERS = 8;
        private static final int MOST_COINS = 6;
        private static final int MOST_PENCE = 999;
        private static final int MOST_WAYS = 1000000000;
        /** The highest bit of a same number: it is 9999 at most. */
        private static final int HIGHEST_BIT = 1 << 13;

        private final int[] losses = new int[MOST_LOSERS];
        private final int[] asked = new int[MOST_LOSERS];
        private final int[] shares = new int[MOST_LOSERS];
        private final int[] coins = new int[MOST_COINS];
        private int coinCount;
        /** By an amount, how many coins pay it, or in how many ways. */
        private final int[] paid = new int[MOST_PENCE + 1];

        int winner(int[] offers, int n) {
            int winner = NONE;
            for (int i = 0; i < n && i < MOST_BIDS; i++) {
                if (winner < 0 || offers[i] > offers[winner]) {
                    winner = i;
                }
            }
            return winner;
        }

        int price(int[] offers, int n, int winner, int reserve) {
            int price = reserve;
            for (int i = 0; i < n && i < MOST_BIDS; i++) {
                if (i != winner) {
                    price = Math.max(price, offers[i]);
                }
            }
            return price;
        }

        boolean takeLosses(int[] bytes, int n) {
            boolean areFit = true;
            for (int i = 0; i < n && i < MOST_LOSERS; i++) {
                losses[i] = bytes[2 * i] * 256 + bytes[2 * i + 1];
                areFit = areFit && losses[i] <= MOST_LOSS;
            }
            return areFit;
        }

        void divide(int n, int amount, int rule) {
            boolean isByHalves = rule == 2;
            for (int i = 0; i < MOST_LOSERS; i++) {
                asked[i] = i >= n ? 0 : isByHalves ? losses[i] / 2 : losses[i];
            }
            if (rule == 0 || isByHalves && 2 * amount <= allOf(losses, n)) {
                giveAlike(amount);
            } else if (rule == 1) {
                cutAlike(amount);
            } else {
                divideRests(n, amount - allOf(asked, n));
            }
        }

        /** Each gets its half, and of what it lost beyond that what RULE 1 leaves it. */
        private void divideRests(int n, int amount) {
            for (int i = 0; i < n && i < MOST_LOSERS; i++) {
                asked[i] = losses[i] - losses[i] / 2;
            }
            cutAlike(amount);
            for (int i = 0; i < n && i < MOST_LOSERS; i++) {
                shares[i] += losses[i] / 2;
            }
        }

        private static int allOf(int[] numbers, int n) {
            int all = 0;
            for (int i = 0; i < n && i < numbers.length; i++) {
                all += numbers[i];
            }
            return all;
        }

        /** RULE 0 for what is asked. */
        private void giveAlike(int amount) {
            int bound = 0;
            if (shareUpTo(MOST_LOSS) <= amount) {
                return;
            }
            for (int bit = HIGHEST_BIT; bit > 0; bit >>= 1) {
                if (shareUpTo(bound + bit) <= amount) {
                    bound += bit;
                }
            }
            giveRest(amount - shareUpTo(bound), bound + 1);
        }

        /** RULE 1 for what is asked. */
        private void cutAlike(int amount) {
            int tooLittle = 0;
            if (shareLess(0) <= amount) {
                return;
            }
            for (int bit = HIGHEST_BIT; bit > 0; bit >>= 1) {
                if (shareLess(tooLittle + bit) > amount) {
                    tooLittle += bit;
                }
            }
            int cut = tooLittle + 1;
            giveRest(amount - shareLess(cut), cut);
        }

        /** Shares of what is asked, a bound at most each; how much that is. */
        private int shareUpTo(int bound) {
            for (int i = 0; i < MOST_LOSERS; i++) {
                shares[i] = Math.min(asked[i], bound);
            }
            return allOf(shares, MOST_LOSERS);
        }

        /** Shares of what is asked, less a cut each; how much that is. */
        private int shareLess(int cut) {
            for (int i = 0; i < MOST_LOSERS; i++) {
                shares[i] = Math.max(0, asked[i] - cut);
            }
            return allOf(shares, MOST_LOSERS);
        }

        /** One more to each who asked for so much or more, from the lowest on, while there is a rest. */
        private void giveRest(int rest, int least) {
            int left = rest;
            for (int i = 0; i < MOST_LOSERS && left > 0; i++) {
                if (asked[i] >= least) {
                    shares[i]++;
                    left--;
                }
            }
        }

        /** Takes each coin once, however many are alike; false: one is of 0 pence. */
        boolean takeCoins(int[] bytes, int n) {
            coinCount = 0;
            for (int i = 0; i < n && i < MOST_COINS; i++) {
                if (bytes[i] == 0) {
                    return false;
                }
                if (!hasCoin(bytes[i])) {
                    coins[coinCount] = bytes[i];
                    coinCount++;
                }
            }
            return true;
        }

        private boolean hasCoin(int pence) {
            for (int i = 0; i < coinCount && i < MOST_COINS; i++) {
                if (coins[i] == pence) {
                    return true;
                }
            }
            return false;
        }

        int fewest(int amount) {
            int never = MOST_PENCE + 1;
            paid[0] = 0;
            for (int sum = 1; sum <= amount && sum <= MOST_PENCE; sum++) {
                paid[sum] = never;
                for (int i = 0; i < coinCount; i++) {
                    if (coins[i] <= sum) {
                        paid[sum] = Math.min(paid[sum], paid[sum - coins[i]] + 1);
                    }
                }
            }
            return paid[amount] < never ? paid[amount] : NOT_SO;
        }

        int ways(int amount) {
            for (int sum = 0; sum <= amount && sum <= MOST_PENCE; sum++) {
                paid[sum] = sum == 0 ? 1 : 0;
            }
            for (int i = 0; i < coinCount; i++) {
                for (int sum = coins[i]; sum <= amount && sum <= MOST_PENCE; sum++) {
                    paid[sum] = Math.min(MOST_WAYS, paid[sum] + paid[sum - coins[i]]);
                }
            }
            return paid[amount];
        }

        int greatestFirst(int amount) {
            int left = amount;
            int taken = 0;
            for (int i = 0; i < MOST_COINS && left > 0; i++) {
                int coin = greatestWithin(left);
                if (coin == 0) {
                    return NOT_SO;
                }
                taken += left / coin;
                left %= coin;
            }
            return left == 0 ? taken : NOT_SO;
        }

        private int greatestWithin(int left) {
            int greatest = 0;
            for (int i = 0; i < coinCount; i++) {
                if (coins[i] <= left) {
                    greatest = Math.max(greatest, coins[i]);
                }
            }
            return greatest;
        }
    }
}
