import java.math.BigInteger;
import java.util.ArrayList;
import java.util.Arrays;
import java.util.List;
import java.util.TreeSet;

/** The document once more, as plainly as can be and with the whole Java library, to compare with. */
final class Model {
    private static final class Fault extends RuntimeException {
        private static final long serialVersionUID = 1L;
        final int code;

        Fault(int number, int place) {
            super(null, null, false, false);
            code = -1000 * number - place;
        }
    }

    private static final class Refused extends RuntimeException {
        private static final long serialVersionUID = 1L;

        Refused() {
            super(null, null, false, false);
        }
    }

    private static final class Letter {
        int home;
        int loss;
        int fund;
        boolean force = true;
        Integer[] told = new Integer[12];
        boolean[] read = new boolean[12];

        Letter like() {
            Letter l = new Letter();
            l.home = home;
            l.loss = loss;
            l.fund = fund;
            l.force = force;
            l.told = told.clone();
            l.read = read.clone();
            return l;
        }
    }

    /** What is kept. */
    private static final class State {
        int[] wealth = new int[12];
        Letter[] letters = new Letter[6];
        int[][] memory = new int[12][3];
        int farmed;
        int month;
        int rebuilt;
        int x = 1;

        State like() {
            State s = new State();
            s.wealth = wealth.clone();
            for (int k = 0; k < 6; k++) {
                s.letters[k] = letters[k] == null ? null : letters[k].like();
            }
            for (int p = 0; p < 12; p++) {
                s.memory[p] = memory[p].clone();
            }
            s.farmed = farmed;
            s.month = month;
            s.rebuilt = rebuilt;
            s.x = x;
            return s;
        }

        int tired(int p) {
            return Arrays.stream(memory[p]).sum();
        }

        boolean told(int k) {
            return k >= 0 && k < 6 && letters[k] != null;
        }
    }

    private record Rule(char kind, String sum, String test) {
    }

    private final boolean[] parishes = new boolean[12];
    private final int[][] roads = new int[12][12];
    private State now = new State();
    private State kept;
    private List<Rule> law = new ArrayList<>();
    private final List<Integer> tape = new ArrayList<>();
    private final int[][] texts = new int[6][];

    private boolean toldParish(int p) {
        return p >= 0 && p < 12 && parishes[p];
    }

    boolean parish(int p, int wealth) {
        if (p < 0 || p > 11 || wealth < 0 || wealth > 99) {
            return false;
        }
        parishes[p] = true;
        now.wealth[p] = wealth;
        return true;
    }

    boolean road(int p, int q, int miles) {
        if (!toldParish(p) || !toldParish(q) || p == q || miles < 0 || miles > 99) {
            return false;
        }
        roads[p][q] = roads[q][p] = miles;
        return true;
    }

    boolean letter(int k, int home, int loss) {
        if (k < 0 || k > 5 || !toldParish(home) || loss < 1 || loss > 9999) {
            return false;
        }
        Letter l = new Letter();
        l.home = home;
        l.loss = loss;
        l.told[home] = loss;
        now.letters[k] = l;
        return true;
    }

    int feed(int... words) {
        if (tape.size() > 240) {
            return -1;
        }
        for (int word : words) {
            for (byte b : java.nio.ByteBuffer.allocate(4).putInt(word).array()) {
                tape.add(b & 255);
            }
        }
        return tape.size();
    }

    private int[] take(int n) {
        int[] bytes = new int[n];
        for (int i = 0; i < n; i++) {
            bytes[i] = tape.get(i);
        }
        tape.clear();
        return bytes;
    }

    private boolean lacks(int n, int least, int most) {
        return n < least || n > most || n > tape.size();
    }

    private static String string(int[] bytes) {
        StringBuilder s = new StringBuilder();
        for (int b : bytes) {
            s.append((char) b);
        }
        return s.toString();
    }

    int law(int n) {
        if (lacks(n, 1, 240)) {
            return -1;
        }
        try {
            law = new LawText(string(take(n))).rules();
            return law.size();
        } catch (Fault f) {
            return f.code;
        }
    }

    /** Looks for FAULTS; its RULES are kept as texts. */
    private static final class LawText {
        final String s;
        int i = 0;

        LawText(String s) {
            this.s = s;
        }

        char at() {
            return i < s.length() ? s.charAt(i) : '\uffff';
        }

        boolean one(String of) {
            return of.indexOf(at()) >= 0;
        }

        void want(String of) {
            if (!one(of)) {
                throw new Fault(1, i);
            }
            i++;
        }

        List<Rule> rules() {
            List<Rule> rules = new ArrayList<>();
            do {
                char kind = at();
                if (one("gthx") && rules.size() == 16) {
                    throw new Fault(4, i);
                }
                want("gthx");
                int from = i;
                if (kind != 'x') {
                    sum(0);
                }
                int test = i;
                want("(");
                any(1);
                want(")");
                rules.add(new Rule(kind, s.substring(from, test), s.substring(test + 1, i - 1)));
                if (i == s.length()) {
                    return rules;
                }
                want(";");
            } while (true);
        }

        void any(int open) {
            all(open);
            while (one("|")) {
                i++;
                all(open);
            }
        }

        void all(int open) {
            test(open);
            while (one("&")) {
                i++;
                test(open);
            }
        }

        void deeper(int open) {
            if (open == 6) {
                throw new Fault(5, i);
            }
            i++;
        }

        void test(int open) {
            if (one("!")) {
                deeper(open);
                test(open + 1);
            } else if (one("(")) {
                deeper(open);
                any(open + 1);
                want(")");
            } else {
                sum(open);
                want("<>=");
                sum(open);
            }
        }

        void sum(int open) {
            term(open);
            while (one("+-")) {
                i++;
                term(open);
            }
        }

        void term(int open) {
            factor(open);
            while (one("*/%")) {
                i++;
                factor(open);
            }
        }

        void factor(int open) {
            if (one("[")) {
                deeper(open);
                sum(open + 1);
                want("]");
            } else if (one("0123456789")) {
                int from = i;
                while (one("0123456789")) {
                    if (i - from == 5) {
                        throw new Fault(2, i);
                    }
                    i++;
                }
            } else {
                want("pwrkldm");
            }
        }
    }

    /** Reckons a text of the law; what is not asked is passed over. */
    private static final class Reckoner {
        final String s;
        final int[] facts;
        int i = 0;

        Reckoner(String s, int[] facts) {
            this.s = s;
            this.facts = facts;
        }

        char at() {
            return i < s.length() ? s.charAt(i) : '\uffff';
        }

        boolean any(boolean asked) {
            boolean holds = all(asked);
            while (at() == '|') {
                i++;
                boolean next = all(asked && !holds);
                holds = holds || next;
            }
            return holds;
        }

        boolean all(boolean asked) {
            boolean holds = test(asked);
            while (at() == '&') {
                i++;
                boolean next = test(asked && holds);
                holds = holds && next;
            }
            return holds;
        }

        boolean test(boolean asked) {
            if (at() == '!') {
                i++;
                return !test(asked);
            }
            if (at() == '(') {
                i++;
                boolean holds = any(asked);
                i++;
                return holds;
            }
            int left = sum(asked);
            char sign = s.charAt(i++);
            int right = sum(asked);
            return sign == '<' ? left < right : sign == '>' ? left > right : left == right;
        }

        int sum(boolean asked) {
            int all = term(asked);
            while (at() == '+' || at() == '-') {
                char sign = s.charAt(i++);
                int next = term(asked);
                all = sign == '+' ? all + next : all - next;
            }
            return all;
        }

        int term(boolean asked) {
            int all = factor(asked);
            while (at() == '*' || at() == '/' || at() == '%') {
                char sign = s.charAt(i++);
                int next = factor(asked);
                if (sign == '*') {
                    all *= next;
                } else if (next == 0) {
                    if (asked) {
                        throw new Refused();
                    }
                } else {
                    all = sign == '/' ? all / next : all % next;
                }
            }
            return all;
        }

        int factor(boolean asked) {
            if (at() == '[') {
                i++;
                int all = sum(asked);
                i++;
                return all;
            }
            if (Character.isDigit(at())) {
                int from = i;
                while (Character.isDigit(at())) {
                    i++;
                }
                return Integer.parseInt(s.substring(from, i));
            }
            return facts["pwrkldm".indexOf(s.charAt(i++))];
        }
    }

    private static boolean holds(Rule rule, int[] facts) {
        try {
            return new Reckoner(rule.test, facts).any(true);
        } catch (Refused r) {
            return false;
        }
    }

    private int number(char kind, int most, int... facts) {
        for (Rule rule : law) {
            if (rule.kind == kind && holds(rule, facts)) {
                try {
                    return Math.max(0, Math.min(most, new Reckoner(rule.sum, facts).sum(true)));
                } catch (Refused r) {
                    return 0;
                }
            }
        }
        return 0;
    }

    int report(int n) {
        if (lacks(n, 1, 120)) {
            return -1;
        }
        String s = string(take(n));
        List<int[]> lines = new ArrayList<>();
        int i = 0;
        try {
            while (true) {
                int k = sign(s, i, "ABCDEF");
                if (lines.size() == 20) {
                    return -4000 - i;
                }
                if (now.letters[k] == null) {
                    return -7000 - i;
                }
                i++;
                int p = sign(s, i, "abcdefghijkl");
                if (!parishes[p]) {
                    return -7000 - i;
                }
                i++;
                int what = sign(s, i, ":+!");
                i++;
                int number = 0;
                if (what < 2) {
                    number = sign(s, i, "0123456789");
                    i++;
                    for (int more = 0; i < s.length() && Character.isDigit(s.charAt(i)); more++) {
                        if (more == 3) {
                            return -2000 - i;
                        }
                        number = number * 10 + s.charAt(i) - '0';
                        i++;
                    }
                }
                lines.add(new int[] {k, p, what, number});
                if (i == s.length()) {
                    break;
                }
                sign(s, i, ";");
                i++;
            }
        } catch (Fault f) {
            return f.code;
        }
        for (int[] line : lines) {
            Letter l = now.letters[line[0]];
            if (line[2] == 0) {
                l.told[line[1]] = line[3];
            } else if (line[2] == 1) {
                give(now, l, line[3]);
                l.read[line[1]] = true;
            } else {
                l.told[line[1]] = null;
                l.read[line[1]] = false;
            }
        }
        return lines.size();
    }

    private static int sign(String s, int i, String of) {
        int place = i < s.length() ? of.indexOf(s.charAt(i)) : -1;
        if (place < 0) {
            throw new Fault(1, i);
        }
        return place;
    }

    private static void give(State s, Letter l, int pence) {
        int share = (int) Math.ceil(pence * 2 / 3.0);
        l.fund = Math.min(999999, l.fund + share);
        s.farmed = Math.min(999999, s.farmed + pence - share);
    }

    boolean text(int k, int n) {
        if (k < 0 || k > 5 || lacks(n, 1, 40)) {
            return false;
        }
        texts[k] = take(n);
        return true;
    }

    /** How many were READ, held back. */
    private int[] pass(State s, int n) {
        int[] tally = new int[2];
        for (int i = 0; i < n && s.month < 9999; i++) {
            for (int k = 0; k < 6; k++) {
                if (s.told(k) && s.letters[k].force) {
                    hear(s, k);
                }
            }
            int[] readNow = new int[12];
            for (int p = 0; p < 12; p++) {
                int k = 0;
                while (k < 6 && !(s.told(k) && s.letters[k].force && s.letters[k].told[p] != null
                    && !s.letters[k].read[p])) {
                    k++;
                }
                if (!parishes[p] || k == 6) {
                    continue;
                }
                Letter l = s.letters[k];
                int[] facts = {p, s.wealth[p], s.tired(p), k, l.told[p], 0, s.month % 12};
                s.x = (int) ((25173L * s.x + 13849) % 65536);
                if (s.x % 10 < number('h', 10, facts)) {
                    tally[1]++;
                } else {
                    give(s, l, number('g', 999, facts));
                    l.read[p] = true;
                    readNow[p]++;
                    tally[0]++;
                }
            }
            for (Letter l : s.letters) {
                if (l != null && l.force && l.fund >= l.loss) {
                    l.force = false;
                    s.rebuilt++;
                }
            }
            for (int p = 0; p < 12; p++) {
                s.memory[p] = new int[] {readNow[p], s.memory[p][0], s.memory[p][1]};
            }
            s.month++;
        }
        return tally;
    }

    private void hear(State s, int k) {
        Letter l = s.letters[k];
        Integer[] before = l.told.clone();
        for (int p = 0; p < 12; p++) {
            if (!parishes[p] || before[p] != null) {
                continue;
            }
            int best = -1;
            for (int q = 11; q >= 0; q--) {
                if (before[q] == null || roads[p][q] == 0) {
                    continue;
                }
                int[] facts = {p, s.wealth[p], s.tired(p), k, before[q], roads[p][q], s.month % 12};
                if (law.stream().noneMatch(r -> r.kind == 'x' && holds(r, facts))
                    && (best < 0 || roads[p][q] <= roads[p][best])) {
                    best = q;
                }
            }
            if (best >= 0) {
                l.told[p] = larger(s, k, p, before[best], roads[p][best]);
            }
        }
    }

    private int larger(State s, int k, int p, int told, int miles) {
        return Math.min(99999, told + number('t', 999, p, s.wealth[p], s.tired(p), k, told, miles, s.month % 12));
    }

    int months(int n) {
        return n < 1 || n > 60 ? -1 : pass(now, n)[0];
    }

    int tried(int n, int what) {
        if (n < 1 || n > 60 || !(what >= 0 && what <= 3 || what >= 10 && now.told(what - 10))) {
            return -1;
        }
        State s = now.like();
        int[] tally = pass(s, n);
        return what < 2 ? tally[what] : what == 2 ? s.farmed - now.farmed : what == 3 ? s.rebuilt - now.rebuilt
            : s.letters[what - 10].fund;
    }

    int parishIs(int p, int what) {
        if (!toldParish(p) || what < 0 || what > 3) {
            return -1;
        }
        if (what < 2) {
            return what == 0 ? now.wealth[p] : now.tired(p);
        }
        int bits = 0;
        for (int k = 0; k < 6; k++) {
            if (now.told(k) && (what == 2 ? now.letters[k].told[p] != null : now.letters[k].read[p])) {
                bits += 1 << k;
            }
        }
        return bits;
    }

    int letterIs(int k, int what) {
        if (!now.told(k) || what < 0 || what > 5) {
            return -1;
        }
        Letter l = now.letters[k];
        if (what < 4) {
            return what == 0 ? l.home : what == 1 ? l.loss : what == 2 ? l.fund : l.force ? 1 : 0;
        }
        int bits = 0;
        for (int p = 0; p < 12; p++) {
            if (what == 4 ? l.told[p] != null : l.read[p]) {
                bits += 1 << p;
            }
        }
        return bits;
    }

    int toldAt(int k, int p) {
        if (!now.told(k) || !toldParish(p)) {
            return -1;
        }
        return now.letters[k].told[p] == null ? -2 : now.letters[k].told[p];
    }

    int spreads(int k, int what) {
        if (!now.told(k) || !(what >= 100 && what <= 102 || toldParish(what))) {
            return -1;
        }
        if (!now.letters[k].force) {
            return -3;
        }
        State s = now.like();
        int[] behind = new int[12];
        Arrays.fill(behind, -2);
        for (int month = 0; month <= 100; month++) {
            for (int p = 0; p < 12; p++) {
                if (s.letters[k].told[p] != null && behind[p] < 0) {
                    behind[p] = month;
                }
            }
            hear(s, k);
            s.month++;
        }
        int most = Arrays.stream(behind).max().getAsInt();
        if (what == 100) {
            return (int) Arrays.stream(behind).filter(b -> b >= 0).count();
        }
        if (what == 101) {
            return most;
        }
        if (what == 102) {
            for (int p = 0; p < 12; p++) {
                if (behind[p] == most && most >= 0) {
                    return p;
                }
            }
            return -2;
        }
        return behind[what];
    }

    private static final int FAR_OFF = 1 << 20;

    /** By going on and on from p, as far as one more ROAD helps. */
    private int way(int p, int q) {
        int[] far = new int[12];
        Arrays.fill(far, FAR_OFF);
        far[p] = 0;
        for (int i = 0; i < 12; i++) {
            for (int a = 0; a < 12; a++) {
                for (int b = 0; b < 12; b++) {
                    if (roads[a][b] > 0 && far[a] + roads[a][b] < far[b]) {
                        far[b] = far[a] + roads[a][b];
                    }
                }
            }
        }
        return far[q];
    }

    int miles(int p, int q) {
        if (!toldParish(p) || !toldParish(q)) {
            return -1;
        }
        return way(p, q) >= FAR_OFF ? -2 : way(p, q);
    }

    /** All orders of what is left, the least row first. */
    private static void orders(List<Integer> done, TreeSet<Integer> left, List<List<Integer>> all) {
        if (left.isEmpty()) {
            all.add(new ArrayList<>(done));
        }
        for (int next : new ArrayList<>(left)) {
            left.remove(next);
            done.add(next);
            orders(done, left, all);
            done.remove(done.size() - 1);
            left.add(next);
        }
    }

    private static List<List<Integer>> ordersOf(int bits) {
        TreeSet<Integer> left = new TreeSet<>();
        for (int i = 0; i < 31; i++) {
            if ((bits >> i & 1) == 1) {
                left.add(i);
            }
        }
        List<List<Integer>> all = new ArrayList<>();
        orders(new ArrayList<>(), left, all);
        return all;
    }

    private int bitsOf(boolean[] told) {
        int bits = 0;
        for (int i = 0; i < told.length; i++) {
            bits |= told[i] ? 1 << i : 0;
        }
        return bits;
    }

    int round(int from, int bits, int what) {
        int n = Integer.bitCount(bits);
        if (!toldParish(from) || (bits & ~bitsOf(parishes)) != 0 || n < 1 || n > 7 || (bits >> from & 1) == 1
            || what != 100 && (what < 0 || what >= n)) {
            return -1;
        }
        int[][] ways = new int[12][12];
        for (int p = 0; p < 12; p++) {
            for (int q = 0; q < 12; q++) {
                ways[p][q] = way(p, q);
            }
        }
        int best = FAR_OFF;
        List<Integer> row = null;
        for (List<Integer> order : ordersOf(bits)) {
            int at = from;
            int miles = 0;
            for (int next : order) {
                miles += ways[at][next];
                at = next;
            }
            miles += ways[at][from];
            if (miles < best) {
                best = miles;
                row = order;
            }
        }
        return row == null ? -2 : what == 100 ? best : row.get(what);
    }

    private int gift(State s, int p, int k) {
        Letter l = s.letters[k];
        int told = l.told[p] == null ? l.loss : l.told[p];
        return number('g', 999, p, s.wealth[p], s.tired(p), k, told, 0, s.month % 12);
    }

    private static void goOn(State s, int p, int readNow) {
        s.memory[p] = new int[] {readNow, s.memory[p][0], s.memory[p][1]};
        s.month++;
    }

    private int toldBits() {
        int bits = 0;
        for (int k = 0; k < 6; k++) {
            bits |= now.told(k) ? 1 << k : 0;
        }
        return bits;
    }

    int readsMost(int p, int bits, int what) {
        int n = Integer.bitCount(bits);
        if (!toldParish(p) || (bits & ~toldBits()) != 0 || n < 1 || n > 5 || what != 100 && (what < 0 || what >= n)) {
            return -1;
        }
        int most = -1;
        List<Integer> row = null;
        for (List<Integer> order : ordersOf(bits)) {
            State s = now.like();
            int all = 0;
            for (int k : order) {
                all += gift(s, p, k);
                goOn(s, p, 1);
            }
            if (all > most) {
                most = all;
                row = order;
            }
        }
        return what == 100 ? most : row.get(what);
    }

    int bestMonth(int p, int k, int what) {
        if (!toldParish(p) || !now.told(k) || what < 0 || what > 1) {
            return -1;
        }
        State s = now.like();
        int[] gifts = new int[12];
        for (int i = 0; i < 12; i++) {
            gifts[i] = gift(s, p, k);
            goOn(s, p, 0);
        }
        int best = Arrays.stream(gifts).max().getAsInt();
        for (int i = 0; i < 12; i++) {
            if (gifts[i] == best) {
                return what == 0 ? i : best;
            }
        }
        return -99;
    }

    int tales(int k, int what) {
        if (!now.told(k) || what < 0 || what > 2) {
            return -1;
        }
        Letter l = now.letters[k];
        int most = 0;
        int where = -2;
        int bits = 0;
        int[] could = new int[12];
        Arrays.fill(could, -1);
        if (what == 0) {
            goAll(k, new ArrayList<>(List.of(l.home)), l.loss, could);
        }
        for (int p = 0; p < 12; p++) {
            if (l.told[p] != null) {
                if (l.told[p] - l.loss > most) {
                    most = l.told[p] - l.loss;
                    where = p;
                }
                if (l.told[p] < l.loss || l.told[p] > could[p]) {
                    bits |= 1 << p;
                }
            }
        }
        return what == 0 ? bits : what == 1 ? most : where;
    }

    private void goAll(int k, List<Integer> way, int told, int[] could) {
        int at = way.get(way.size() - 1);
        could[at] = Math.max(could[at], told);
        for (int q = 0; q < 12 && way.size() <= 4; q++) {
            if (roads[at][q] > 0 && !way.contains(q)) {
                way.add(q);
                goAll(k, way, larger(now, k, q, told, roads[at][q]), could);
                way.remove(way.size() - 1);
            }
        }
    }

    private static int changes(int[] a, int[] b) {
        int[][] c = new int[a.length + 1][b.length + 1];
        for (int i = 0; i <= a.length; i++) {
            for (int j = 0; j <= b.length; j++) {
                if (i == 0 || j == 0) {
                    c[i][j] = i + j;
                } else {
                    c[i][j] = Math.min(c[i - 1][j - 1] + (a[i - 1] == b[j - 1] ? 0 : 1),
                        1 + Math.min(c[i - 1][j], c[i][j - 1]));
                }
            }
        }
        return c[a.length][b.length];
    }

    int far(int k, int j) {
        if (k < 0 || k > 5 || j < 0 || j > 5) {
            return -1;
        }
        return texts[k] == null || texts[j] == null ? -2 : changes(texts[k], texts[j]);
    }

    int nearest(int n, int what) {
        if (what < 0 || what > 1 || lacks(n, 1, 40)) {
            return -1;
        }
        int[] bytes = take(n);
        int best = -2;
        for (int k = 5; k >= 0; k--) {
            if (texts[k] != null && (best < 0 || changes(bytes, texts[k]) <= changes(bytes, texts[best]))) {
                best = k;
            }
        }
        return best < 0 || what == 0 ? best : changes(bytes, texts[best]);
    }

    int fromWhom() {
        int n = 0;
        List<int[]> twos = new ArrayList<>();
        for (int k = 0; k < 6; k++) {
            n += texts[k] == null ? 0 : 1;
            for (int j = 0; j < k; j++) {
                if (texts[k] != null && texts[j] != null) {
                    twos.add(new int[] {far(k, j), k, j});
                }
            }
        }
        twos.sort((a, b) -> a[0] - b[0]);
        int[] tree = {0, 1, 2, 3, 4, 5};
        int all = 0;
        for (int[] two : twos) {
            int a = tree[two[1]];
            int b = tree[two[2]];
            if (a != b) {
                all += two[0];
                for (int k = 0; k < 6; k++) {
                    tree[k] = tree[k] == a ? b : tree[k];
                }
            }
        }
        return n == 0 ? -2 : all;
    }

    int misspelt(int k, int j) {
        if (k < 0 || k > 5 || j < 0 || j > 5) {
            return -1;
        }
        return texts[k] == null || texts[j] == null || Arrays.equals(texts[k], texts[j]) ? -2
            : Arrays.mismatch(texts[k], texts[j]);
    }

    int bids(int n, int reserve, int what) {
        if (reserve < 0 || reserve > 255 || what < 0 || what > 1 || lacks(n, 1, 12)) {
            return -1;
        }
        int[] bids = take(n);
        int[] sorted = bids.clone();
        Arrays.sort(sorted);
        int high = sorted[n - 1];
        if (high < reserve) {
            return -2;
        }
        if (what == 1) {
            return Math.max(reserve, n > 1 ? sorted[n - 2] : 0);
        }
        int who = 0;
        while (bids[who] != high) {
            who++;
        }
        return who;
    }

    private static int sum(int[] all) {
        return Arrays.stream(all).sum();
    }

    private static int[] byRule0(int[] lost, int amount) {
        if (sum(lost) <= amount) {
            return lost.clone();
        }
        int c = 0;
        while (true) {
            int bound = c + 1;
            if (Arrays.stream(lost).map(l -> Math.min(l, bound)).sum() > amount) {
                break;
            }
            c++;
        }
        int bound = c;
        int[] gets = Arrays.stream(lost).map(l -> Math.min(l, bound)).toArray();
        for (int i = 0; sum(gets) < amount; i++) {
            gets[i] += lost[i] > c ? 1 : 0;
        }
        return gets;
    }

    private static int[] byRule1(int[] lost, int amount) {
        if (sum(lost) <= amount) {
            return lost.clone();
        }
        int c = 0;
        while (true) {
            int cut = c;
            if (Arrays.stream(lost).map(l -> Math.max(0, l - cut)).sum() <= amount) {
                break;
            }
            c++;
        }
        int cut = c;
        int[] gets = Arrays.stream(lost).map(l -> Math.max(0, l - cut)).toArray();
        for (int i = 0; sum(gets) < amount; i++) {
            gets[i] += lost[i] >= c ? 1 : 0;
        }
        return gets;
    }

    int divided(int n, int amount, int rule, int what) {
        if (n < 1 || n > 8 || amount < 0 || amount > 9999 || rule < 0 || rule > 2 || what < 0 || what >= n
            || tape.size() < 2 * n) {
            return -1;
        }
        int[] bytes = take(2 * n);
        int[] lost = new int[n];
        int[] half = new int[n];
        int[] rest = new int[n];
        for (int i = 0; i < n; i++) {
            lost[i] = bytes[2 * i] << 8 | bytes[2 * i + 1];
            if (lost[i] > 9999) {
                return -2;
            }
            half[i] = lost[i] / 2;
            rest[i] = lost[i] - half[i];
        }
        if (rule == 0) {
            return byRule0(lost, amount)[what];
        }
        if (rule == 1) {
            return byRule1(lost, amount)[what];
        }
        if (2 * amount <= sum(lost)) {
            return byRule0(half, amount)[what];
        }
        return half[what] + byRule1(rest, amount - sum(half))[what];
    }

    int coins(int n, int amount, int what) {
        if (amount < 0 || amount > 999 || what < 0 || what > 2 || lacks(n, 1, 6)) {
            return -1;
        }
        TreeSet<Integer> coins = new TreeSet<>();
        for (int coin : take(n)) {
            coins.add(coin);
        }
        if (coins.contains(0)) {
            return -3;
        }
        if (what == 0) {
            TreeSet<Integer> reached = new TreeSet<>(List.of(0));
            for (int used = 0; used <= 999; used++) {
                if (reached.contains(amount)) {
                    return used;
                }
                TreeSet<Integer> next = new TreeSet<>();
                for (int r : reached) {
                    for (int coin : coins) {
                        if (r + coin <= amount) {
                            next.add(r + coin);
                        }
                    }
                }
                reached = next;
            }
            return -2;
        }
        if (what == 1) {
            BigInteger[] ways = new BigInteger[amount + 1];
            Arrays.fill(ways, BigInteger.ZERO);
            ways[0] = BigInteger.ONE;
            for (int coin : coins) {
                for (int s = coin; s <= amount; s++) {
                    ways[s] = ways[s].add(ways[s - coin]);
                }
            }
            return ways[amount].min(BigInteger.valueOf(1000000000)).intValue();
        }
        int left = amount;
        int taken = 0;
        while (left > 0) {
            Integer coin = coins.floor(left);
            if (coin == null) {
                return -2;
            }
            left -= coin;
            taken++;
        }
        return taken;
    }

    int lent(int k, int n, int hundredths) {
        if (!now.told(k) || n < 1 || n > 60 || hundredths < 0 || hundredths > 10) {
            return -1;
        }
        State s = now.like();
        pass(s, n);
        int base = s.letters[k].fund * 2 / 3;
        return Math.max(0, base - (int) Math.ceil((double) base * hundredths * n / 100));
    }

    boolean seed(int x) {
        if (x < 0 || x > 65535) {
            return false;
        }
        now.x = x;
        return true;
    }

    int keep() {
        kept = now.like();
        return now.month;
    }

    boolean undo() {
        if (kept == null) {
            return false;
        }
        now = kept.like();
        return true;
    }

    int check(int n) {
        if (lacks(n, 0, 12)) {
            return -2;
        }
        int[] said = take(n);
        return Arrays.mismatch(said, Arrays.copyOf(now.wealth, n));
    }

    int count(int what) {
        int force = 0;
        int written = 0;
        for (int k = 0; k < 6; k++) {
            force |= now.told(k) && now.letters[k].force ? 1 << k : 0;
            written |= texts[k] != null ? 1 << k : 0;
        }
        switch (what) {
            case 0: return now.month;
            case 1: return now.rebuilt;
            case 2: return now.farmed;
            case 3: return bitsOf(parishes);
            case 4: return toldBits();
            case 5: return force;
            case 6: return law.size();
            case 7: return tape.size();
            case 8: return now.x;
            case 9: return written;
            default: return what >= 10 && what <= 15 && texts[what - 10] != null ? texts[what - 10].length : -1;
        }
    }
}
