import java.util.ArrayList;
import java.util.List;
import java.util.regex.Matcher;
import java.util.regex.Pattern;

/** The texts once more, by descent from rule to rule of the document's grammar, to hold the class against. */
final class TextModel {
    static final String[] FACTS = {"size", "heel", "clay", "land", "load", "wet", "frost", "stone", "called", "day"};
    private static final Pattern TOKEN = Pattern.compile("[ \\n]+|([A-Za-z]+|[0-9]+|[^ \\n])", Pattern.DOTALL);

    interface Sum {
        int of(int[] facts);
    }

    interface Test {
        boolean of(int[] facts);
    }

    record Line(String word, Sum sum, Test when) {
    }

    private static final class Fault extends RuntimeException {
        private static final long serialVersionUID = 1L;
        final int kind;
        final int place;

        Fault(int kind, int place) {
            super(null, null, false, false);
            this.kind = kind;
            this.place = place;
        }
    }

    final List<Line> law = new ArrayList<>();
    /** Of each line of CALLS: day, person, door, fields; of SKY: day, wet or 10 (frost) or 11 (thaw); of WAYS: two doors, length. */
    final List<int[]> rows = new ArrayList<>();
    int kind = 0;
    int place = ClayBoots.NONE;
    private final List<String> tokens = new ArrayList<>();
    private final List<Integer> places = new ArrayList<>();
    private final int fields;
    private final int doors;
    private final int people;
    private int at = 0;

    TextModel(int k, String text, int fields, int doors, int people) {
        this.fields = fields;
        this.doors = doors;
        this.people = people;
        Matcher m = TOKEN.matcher(text);
        while (m.find()) {
            if (m.group(1) != null) {
                tokens.add(m.group(1));
                places.add(m.start());
            }
        }
        tokens.add("");
        places.add(text.length());
        try {
            while (!now().isEmpty()) {
                line(k);
            }
        } catch (Fault f) {
            kind = f.kind;
            place = f.place;
        }
    }

    int lines() {
        return law.size() + rows.size();
    }

    int tell(String word, int[] facts) {
        int said = word.equals("takes") ? facts[0] + facts[5] : word.equals("leaves") ? 500 : 0;
        for (Line line : law) {
            if (line.word.equals(word) && line.when.of(facts)) {
                said = line.sum.of(facts);
                break;
            }
        }
        return Math.max(0, Math.min(said, word.equals("takes") ? 99 : 1000));
    }

    private String now() {
        return tokens.get(at);
    }

    private Fault fault(int which) {
        return new Fault(which, places.get(at));
    }

    private String take(String... ones) {
        for (String one : ones) {
            if (now().equals(one)) {
                at++;
                return one;
            }
        }
        throw fault(1);
    }

    private boolean isNumber() {
        return now().matches("[0-9]{1,4}");
    }

    private int number(int least, int most) {
        if (!isNumber()) {
            throw fault(1);
        }
        int n = Integer.parseInt(now());
        if (n < least || n > most) {
            throw fault(2);
        }
        at++;
        return n;
    }

    private void line(int k) {
        String begins = k == 0 ? "takes leaves strays" : k == 3 ? "door" : "on";
        String word = take(begins.split(" "));
        if (lines() == 16) {
            at--;
            throw fault(3);
        }
        if (k == 0) {
            Sum sum = sum();
            Test when = facts -> true;
            if (now().equals("when")) {
                at++;
                when = either(0);
            }
            take(";");
            law.add(new Line(word, sum, when));
            return;
        }
        rows.add(k == 1 ? calls() : k == 2 ? sky() : ways());
    }

    private int[] calls() {
        List<Integer> row = new ArrayList<>();
        row.add(number(0, 999));
        take("person");
        row.add(number(0, people - 1));
        take("by");
        List<Integer> by = new ArrayList<>();
        do {
            by.add(number(0, fields - 1));
            if (by.size() == 7) {
                at--;
                throw fault(3);
            }
        } while (isNumber());
        take("to");
        row.add(number(0, doors - 1));
        row.addAll(by);
        take(";");
        return row.stream().mapToInt(Integer::intValue).toArray();
    }

    private int[] sky() {
        int day = number(0, 999);
        String what = take("wet", "frost", "thaw");
        int sky = what.equals("wet") ? number(0, 9) : what.equals("frost") ? 10 : 11;
        take(";");
        return new int[] {day, sky};
    }

    private int[] ways() {
        int one = number(0, doors - 1);
        take("door");
        int other = number(0, doors - 1);
        if (one == other) {
            at--;
            throw fault(2);
        }
        int length = number(1, 99);
        take(";");
        return new int[] {one, other, length};
    }

    private Test either(int open) {
        Test left = both(open);
        while (now().equals("or")) {
            at++;
            Test a = left;
            Test b = both(open);
            left = facts -> a.of(facts) || b.of(facts);
        }
        return left;
    }

    private Test both(int open) {
        Test left = one(open);
        while (now().equals("and")) {
            at++;
            Test a = left;
            Test b = one(open);
            left = facts -> a.of(facts) && b.of(facts);
        }
        return left;
    }

    private Test one(int open) {
        if (now().equals("not") || now().equals("(")) {
            if (open == 8) {
                throw fault(3);
            }
            if (take("not", "(").equals("not")) {
                Test inner = one(open + 1);
                return facts -> !inner.of(facts);
            }
            Test inner = either(open + 1);
            take(")");
            return inner;
        }
        Sum a = sum();
        String sign = take("<", "=", ">");
        Sum b = sum();
        return sign.equals("<") ? facts -> a.of(facts) < b.of(facts)
                : sign.equals("=") ? facts -> a.of(facts) == b.of(facts) : facts -> a.of(facts) > b.of(facts);
    }

    private Sum sum() {
        Sum left = product();
        while (now().equals("+") || now().equals("-")) {
            boolean more = take("+", "-").equals("+");
            Sum a = left;
            Sum b = product();
            left = facts -> more ? a.of(facts) + b.of(facts) : a.of(facts) - b.of(facts);
        }
        return left;
    }

    private Sum product() {
        Sum left = unit();
        while (now().equals("*") || now().equals("/")) {
            Sum a = left;
            if (take("*", "/").equals("*")) {
                Sum b = unit();
                left = facts -> a.of(facts) * b.of(facts);
            } else {
                int b = number(1, 9999);
                left = facts -> a.of(facts) / b;
            }
        }
        return left;
    }

    private Sum unit() {
        for (int i = 0; i < FACTS.length; i++) {
            if (now().equals(FACTS[i])) {
                at++;
                int fact = i;
                return facts -> facts[fact];
            }
        }
        int n = number(0, 9999);
        return facts -> n;
    }
}
