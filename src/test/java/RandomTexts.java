import java.util.Random;

/** Random texts, mostly sound, some with small harm done to them. */
final class RandomTexts {
    private static final String[] SCRAPS = {"takes", "leaves", "strays", "when", "or", "and", "not", "(", ")", "+", "-",
        "*", "/", "<", "=", ">", ";", "0", "00", "1", "12", "9999", "12345", "on", "person", "by", "to", "wet", "frost",
        "thaw", "door", "size", "day", "x", "Takes", "landand", "\t", ",", ".", "\u00e9", " ", "\n", "stone", "called"};
    private final Random random;

    RandomTexts(Random random) {
        this.random = random;
    }

    private int below(int n) {
        return n <= 0 ? 0 : random.nextInt(n);
    }

    private String pick(String... ones) {
        return ones[below(ones.length)];
    }

    String text(int k, int fields, int doors, int people) {
        StringBuilder b = new StringBuilder();
        int lines = below(20) == 0 ? 16 + below(2) : below(6);
        for (int i = 0; i < lines; i++) {
            int before = b.length();
            b.append(k == 0 ? law(lines) : k == 1 ? calls(fields, doors, people) : k == 2 ? sky() : ways(doors));
            if (b.length() > 400) {
                b.setLength(before);
            }
        }
        return b.toString();
    }

    String harmed(String text) {
        StringBuilder b = new StringBuilder(text);
        for (int times = 1 + below(2); times > 0; times--) {
            int at = below(b.length() + 1);
            switch (below(4)) {
                case 0:
                    b.insert(at, SCRAPS[below(SCRAPS.length)]);
                    break;
                case 1:
                    b.insert(at, " " + SCRAPS[below(SCRAPS.length)] + " ");
                    break;
                case 2:
                    b.delete(at, Math.min(b.length(), at + 1 + below(5)));
                    break;
                default:
                    b.setLength(at);
                    break;
            }
        }
        if (b.length() > 400) {
            b.setLength(400);
        }
        return b.toString();
    }

    private String blank() {
        return pick(" ", " ", " ", "\n", "  ");
    }

    private String law(int lines) {
        String line = pick("takes", "leaves", "strays") + blank() + sum();
        return line + (lines < 10 && below(3) > 0 ? blank() + "when" + blank() + either(below(10)) : "") + ";";
    }

    private String sum() {
        StringBuilder b = new StringBuilder(product());
        for (int n = below(3); n > 0; n--) {
            b.append(pick("+", "-", " + ", " - ")).append(product());
        }
        return b.toString();
    }

    private String product() {
        StringBuilder b = new StringBuilder(unit());
        for (int n = below(3); n > 0; n--) {
            b.append(below(2) == 0 ? "*" + unit() : "/" + (below(60) == 0 ? 0 : 1 + below(40)));
        }
        return b.toString();
    }

    private String unit() {
        return below(2) == 0 ? pick(TextModel.FACTS) : pick("0", "1", "7", "30", "500", "9999", "0003");
    }

    private String either(int deep) {
        StringBuilder b = new StringBuilder(both(deep));
        for (int n = below(3) / 2; n > 0; n--) {
            b.append(" or ").append(both(deep));
        }
        return b.toString();
    }

    private String both(int deep) {
        StringBuilder b = new StringBuilder(one(deep));
        for (int n = below(3) / 2; n > 0; n--) {
            b.append(" and ").append(one(deep));
        }
        return b.toString();
    }

    private String one(int deep) {
        if (deep > 0 && below(5) > 0) {
            return below(2) == 0 ? "not " + one(deep - 1) : "(" + either(deep - 1) + ")";
        }
        return below(2) == 0 ? sum() + pick("<", "=", ">") + sum() : unit() + pick("<", "=", ">") + unit();
    }

    private String calls(int fields, int doors, int people) {
        StringBuilder b = new StringBuilder("on " + below(12) + blank() + "person " + below(people) + " by");
        for (int n = 1 + below(below(15) == 0 ? 7 : 4); n > 0; n--) {
            b.append(blank()).append(below(fields + (below(30) == 0 ? 1 : 0)));
        }
        return b.append(" to ").append(below(doors)).append(";").toString();
    }

    private String sky() {
        return "on " + below(12) + pick(" wet " + below(10), " frost", " thaw", "wet 3") + ";";
    }

    private String ways(int doors) {
        int one = below(doors);
        return "door " + one + blank() + "door " + (below(20) == 0 ? one : (one + 1) % Math.max(1, doors)) + " " + below(100) + ";";
    }
}
