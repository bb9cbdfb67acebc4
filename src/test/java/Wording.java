import java.util.Random;

/** Makes texts of laws and reports, most of them without a fault. */
final class Wording {
    private final Random random;

    Wording(Random random) {
        this.random = random;
    }

    String law() {
        StringBuilder s = new StringBuilder();
        int rules = random.nextInt(10) == 0 ? 1 + random.nextInt(18) : 1 + random.nextInt(5);
        int depth = random.nextInt(20) == 0 ? 8 : 3;
        for (int i = 0; i < rules; i++) {
            String rule = rule(depth);
            if (s.length() + rule.length() < 238) {
                s.append(i > 0 ? ";" : "").append(rule);
            }
        }
        return spoilt(s.length() == 0 ? "g9(1=1)" : s.toString(), "gthxpwrkldm0123456789+-*/%<>=!()[]&|;z");
    }

    private String rule(int depth) {
        String kind = pick("g", "t", "h", "x", "g", "t");
        return kind + (kind.equals("x") ? "" : sum(2)) + "(" + (random.nextInt(3) == 0 ? "1=1" : any(depth)) + ")";
    }

    private String any(int depth) {
        return random.nextInt(3) == 0 ? all(depth) + "|" + all(depth) : all(depth);
    }

    private String all(int depth) {
        return random.nextInt(3) == 0 ? test(depth) + "&" + test(depth) : test(depth);
    }

    private String test(int depth) {
        int kind = depth > 0 ? random.nextInt(5) : 4;
        return kind == 0 ? "!" + test(depth - 1) : kind == 1 ? "(" + any(depth - 1) + ")"
            : sum(Math.min(depth, 1)) + pick("<", ">", "=") + sum(Math.min(depth, 1));
    }

    private String sum(int depth) {
        return random.nextInt(3) == 0 ? term(depth) + pick("+", "-") + term(depth) : term(depth);
    }

    private String term(int depth) {
        return random.nextInt(3) == 0 ? factor(depth) + pick("*", "/", "%") + factor(depth) : factor(depth);
    }

    private String factor(int depth) {
        int kind = random.nextInt(8);
        if (depth > 0 && kind == 0) {
            return "[" + sum(depth - 1) + "]";
        }
        return kind < 5 ? pick("p", "w", "r", "k", "l", "d", "m")
            : Integer.toString(random.nextInt(random.nextInt(6) == 0 ? 100000 : 12));
    }

    String report() {
        StringBuilder s = new StringBuilder();
        int lines = random.nextInt(12) == 0 ? 1 + random.nextInt(24) : 1 + random.nextInt(4);
        for (int i = 0; i < lines && s.length() < 110; i++) {
            s.append(i > 0 ? ";" : "").append((char) ('A' + random.nextInt(6))).append((char) ('a' + random.nextInt(8)));
            int kind = lines > 16 ? 0 : random.nextInt(3);
            int most = random.nextBoolean() ? 200 : 10000;
            s.append(kind == 0 ? "!" : (kind == 1 ? ":" : "+") + random.nextInt(most));
        }
        return spoilt(s.toString(), "ABCDEFGabcdefghijklm0123456789+:!;");
    }

    /** Now and then one sign more, one less, one another one, or an early end. */
    private String spoilt(String text, String signs) {
        if (random.nextInt(5) > 0) {
            return text;
        }
        StringBuilder s = new StringBuilder(text);
        int at = random.nextInt(text.length());
        char sign = signs.charAt(random.nextInt(signs.length()));
        switch (random.nextInt(4)) {
            case 0 -> s.insert(at, sign);
            case 1 -> s.setCharAt(at, sign);
            case 2 -> s.setLength(Math.max(1, at));
            default -> s.deleteCharAt(at);
        }
        return s.length() == 0 ? "g" : s.toString();
    }

    private String pick(String... all) {
        return all[random.nextInt(all.length)];
    }
}
