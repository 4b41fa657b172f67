import java.util.ArrayDeque;
import java.util.ArrayList;
import java.util.Arrays;
import java.util.Deque;
import java.util.List;

/** The shire once more, as plainly as the document tells it, to hold the class against. */
final class Model {
    private static final int NONE = ClayBoots.NONE;

    private static final class State implements Cloneable {
        int draws, wet, frost, moved, day;
        List<int[]> fields = new ArrayList<>();   // clay, land
        List<int[]> doors = new ArrayList<>();    // stone, then the heap
        List<int[]> people = new ArrayList<>();   // home, size, heel, called, then the boots
        List<int[]> book = new ArrayList<>();

        State copy() {
            State s = new State();
            s.draws = draws;
            s.wet = wet;
            s.frost = frost;
            s.moved = moved;
            s.day = day;
            fields.forEach(a -> s.fields.add(a.clone()));
            doors.forEach(a -> s.doors.add(a.clone()));
            people.forEach(a -> s.people.add(a.clone()));
            book.forEach(a -> s.book.add(a.clone()));
            return s;
        }
    }

    private State s = new State();
    private TextModel[] texts = new TextModel[4];
    private final Deque<State> past = new ArrayDeque<>();
    private State kept = null;
    private TextModel[] keptTexts = null;
    private boolean thought = false;
    private int wiped;

    Model() {
        for (int k = 0; k < 4; k++) {
            texts[k] = new TextModel(k, "", 0, 0, 0);
        }
    }

    private static boolean in(int v, List<int[]> list) {
        return v >= 0 && v < list.size();
    }

    private void keep() {
        past.addLast(s.copy());
        if (past.size() > 6) {
            past.removeFirst();
        }
    }

    int state(int v) {
        int was = s.draws;
        s.draws = v;
        past.clear();
        return was;
    }

    int field(int clay, int land) {
        if (clay < 0 || clay > 5 || land < 0 || land > 9999 || s.fields.size() == 10) {
            return NONE;
        }
        past.clear();
        s.fields.add(new int[] {clay, land});
        return s.fields.size() - 1;
    }

    int door(boolean stone) {
        if (s.doors.size() == 8) {
            return NONE;
        }
        past.clear();
        int[] door = new int[11];
        door[0] = stone ? 1 : 0;
        s.doors.add(door);
        return s.doors.size() - 1;
    }

    int person(int home, int size, int heel) {
        if (!in(home, s.doors) || size < 1 || size > 9 || heel < 0 || heel > 9 || s.people.size() == 12) {
            return NONE;
        }
        past.clear();
        int[] person = new int[14];
        person[0] = home;
        person[1] = size;
        person[2] = heel;
        s.people.add(person);
        return s.people.size() - 1;
    }

    boolean set(int what, int who, int v) {
        if (what == 0 && v >= 0 && v <= 9) {
            s.wet = v;
        } else if (what == 1 && in(who, s.fields) && v >= 0 && v <= 9999) {
            s.fields.get(who)[1] = v;
        } else if (what == 2 && in(who, s.people) && v >= 0 && v <= 9) {
            s.people.get(who)[2] = v;
        } else {
            return false;
        }
        past.clear();
        return true;
    }

    private static int load(int[] person) {
        return Arrays.stream(person, 4, 14).sum();
    }

    private int law(String word, int p, int f, int d) {
        int[] who = s.people.get(p);
        int[] field = f == NONE ? new int[2] : s.fields.get(f);
        int stone = d == NONE ? 0 : s.doors.get(d)[0];
        return texts[0].tell(word, new int[] {who[1], who[2], field[0], field[1], load(who), s.wet, s.frost, stone, who[3], s.day});
    }

    private void write(int what, int who, int much) {
        if (s.book.size() < 150 && !thought) {
            s.book.add(new int[] {s.day, what, who, much});
        }
    }

    private int visit(int p, int[] by, int d) {
        int[] who = s.people.get(p);
        for (int f : by) {
            int takes = law("takes", p, f, NONE);
            takes = Math.min(takes, s.fields.get(f)[1]);
            takes = Math.min(takes, 10 * who[1] - load(who));
            s.fields.get(f)[1] -= takes;
            who[4 + f] += takes;
        }
        int strays = law("strays", p, NONE, d);
        boolean wrong = false;
        if (thought) {
            wrong = strays >= 500;
        } else if (strays > 0) {
            s.draws = 1664525 * s.draws + 1013904223;
            wrong = (s.draws >>> 8) % 1000 < strays;
        }
        wiped = wrong ? (d + 1) % s.doors.size() : d;
        int[] door = s.doors.get(wiped);
        int sum = 0;
        for (int f = 0; f < s.fields.size() && s.frost == 0 && door[0] == 0; f++) {
            if (who[4 + f] > 0) {
                int left = who[4 + f] * law("leaves", p, f, wiped) / 1000;
                who[4 + f] -= left;
                door[1 + f] += left;
                sum += left;
            }
        }
        s.moved += sum;
        who[3]++;
        write(0, p, wiped);
        if (sum > 0) {
            write(1, p, sum);
        }
        return sum;
    }

    private int passDay() {
        for (int[] line : texts[2].rows) {
            if (line[0] == s.day && line[1] < 10) {
                s.wet = line[1];
            } else if (line[0] == s.day) {
                s.frost = line[1] == 10 ? 1 : 0;
            }
        }
        int calls = 0;
        for (int[] line : texts[1].rows) {
            if (line[0] == s.day) {
                visit(line[1], Arrays.copyOfRange(line, 3, line.length), line[2]);
                calls++;
            }
        }
        for (int p = 0; p < s.people.size() && s.frost == 0; p++) {
            int[] who = s.people.get(p);
            int[] home = s.doors.get(who[0]);
            int before = load(who);
            for (int f = 0; f < s.fields.size(); f++) {
                int falls = who[4 + f] / 2;
                who[4 + f] -= falls;
                if (home[0] == 0) {
                    home[1 + f] += falls;
                } else {
                    s.fields.get(f)[1] = Math.min(9999, s.fields.get(f)[1] + falls);
                }
            }
            if (before > load(who)) {
                write(2, p, before - load(who));
            }
        }
        s.day++;
        return calls;
    }

    int call(int person, int fields, int door) {
        String row = String.valueOf(fields);
        if (!in(person, s.people) || !in(door, s.doors) || !row.matches("1[0-9]{1,6}")) {
            return NONE;
        }
        int[] by = row.substring(1).chars().map(c -> c - '0').toArray();
        for (int f : by) {
            if (!in(f, s.fields)) {
                return NONE;
            }
        }
        keep();
        return visit(person, by, door);
    }

    boolean act(int what, int who) {
        if (what < 0 || what > 4 || what < 3 && !in(who, s.doors)) {
            return false;
        }
        int is = what == 0 ? NONE : what < 3 ? s.doors.get(who)[0] : s.frost;
        if (is == what % 2 && what != 0) {
            return false;
        }
        keep();
        if (what == 0) {
            int[] door = s.doors.get(who);
            write(3, who, Arrays.stream(door, 1, 11).sum());
            for (int f = 0; f < s.fields.size(); f++) {
                s.fields.get(f)[1] = Math.min(9999, s.fields.get(f)[1] + door[1 + f]);
                door[1 + f] = 0;
            }
        } else if (what < 3) {
            s.doors.get(who)[0] = what % 2;
        } else {
            s.frost = what % 2;
        }
        return true;
    }

    int days(int n) {
        if (n < 1 || n > 60 || s.day + n > 9999) {
            return NONE;
        }
        int calls = 0;
        for (int i = 0; i < n; i++) {
            keep();
            calls += passDay();
        }
        return calls;
    }

    int text(int k, String told) {
        TextModel text = new TextModel(k, told, s.fields.size(), s.doors.size(), s.people.size());
        if (text.kind != 0) {
            return NONE;
        }
        texts[k] = text;
        if (k == 1 || k == 2) {
            past.clear();
        }
        return text.lines();
    }

    int of(int person, int what) {
        if (!in(person, s.people)) {
            return NONE;
        }
        int[] who = s.people.get(person);
        if (what >= 0 && what < 4) {
            return who[what];
        }
        if (what == 4) {
            return load(who);
        }
        if (what >= 10 && what < 20 && in(what - 10, s.fields)) {
            return who[what - 6];
        }
        return what >= 20 && in(what - 20, s.fields) ? law("takes", person, what - 20, NONE) : NONE;
    }

    private int holder(int field) {
        int holder = NONE;
        for (int d = s.doors.size() - 1; d >= 0; d--) {
            int has = s.doors.get(d)[1 + field];
            if (has > 0 && (holder == NONE || has >= s.doors.get(holder)[1 + field])) {
                holder = d;
            }
        }
        return holder;
    }

    int fieldOf(int field, int what) {
        if (!in(field, s.fields) || what < 0 || what > 2) {
            return NONE - 1;
        }
        return what == 2 ? holder(field) : s.fields.get(field)[what];
    }

    int doorOf(int door, int what) {
        if (!in(door, s.doors)) {
            return NONE - 1;
        }
        int[] at = s.doors.get(door);
        if (what == 0) {
            return at[0];
        }
        if (what == 1) {
            return Arrays.stream(at, 1, 11).sum();
        }
        if (what == 2) {
            int set = 0;
            for (int f = 0; f < s.fields.size(); f++) {
                set |= holder(f) == door ? 1 << f : 0;
            }
            return set;
        }
        if (what >= 10 && what < 20 && in(what - 10, s.fields)) {
            return at[what - 9];
        }
        if (what >= 20 && in(what - 20, s.doors)) {
            return texts[3].rows.stream().filter(w -> w[0] == door && w[1] == what - 20 || w[1] == door && w[0] == what - 20)
                    .mapToInt(w -> w[2]).min().orElse(NONE);
        }
        return NONE - 1;
    }

    int tells(int person, int field, int door, int what) {
        if (!in(person, s.people) || !in(door, s.doors) || what < 0 || what > 1 || what == 0 && !in(field, s.fields)) {
            return NONE;
        }
        return what == 0 ? law("leaves", person, field, door) : law("strays", person, NONE, door);
    }

    int book(int i, int what) {
        return in(i, s.book) && what >= 0 && what < 4 ? s.book.get(i)[what] : NONE;
    }

    int goes(int n, int what) {
        if (n < 1 || n > 60 || what < 0 || what > 2) {
            return NONE;
        }
        State now = s;
        s = now.copy();
        thought = true;
        for (int i = 0; i < n; i++) {
            passDay();
        }
        int held = 0;
        for (int f = 0; f < s.fields.size(); f++) {
            held += holder(f) == NONE ? 0 : 1;
        }
        int answer = what == 0 ? s.moved : what == 1 ? s.people.stream().mapToInt(Model::load).sum() : held;
        thought = false;
        s = now;
        return answer;
    }

    private int visitInThought(int p, int[] by, int d) {
        State now = s;
        s = now.copy();
        thought = true;
        int answer = visit(p, by, d);
        thought = false;
        s = now;
        return answer;
    }

    int would(int person, int field, int door, int what) {
        if (!in(person, s.people) || !in(field, s.fields) || !in(door, s.doors) || what < 0 || what > 1) {
            return NONE;
        }
        int sum = visitInThought(person, new int[] {field}, door);
        return what == 0 ? sum : wiped;
    }

    int many(int person, int field, int door, int n) {
        if (!in(person, s.people) || !in(field, s.fields) || !in(door, s.doors) || n < 1 || n > 9999) {
            return NONE;
        }
        State now = s;
        s = now.copy();
        thought = true;
        int calls = 0;
        while (calls < 100 && s.doors.get(door)[1 + field] < n) {
            visit(person, new int[] {field}, door);
            calls++;
        }
        thought = false;
        s = now;
        return calls < 100 ? calls : NONE;
    }

    int order(int person, int door, int fields, int what) {
        int count = Integer.bitCount(fields);
        if (!in(person, s.people) || !in(door, s.doors) || fields < 1 || fields >> s.fields.size() != 0 || count > 5
                || what != 0 && (what < 10 || what >= 10 + count)) {
            return NONE;
        }
        List<int[]> orders = new ArrayList<>();
        orders(fields, new int[count], 0, orders);
        int most = NONE;
        int[] best = null;
        for (int[] by : orders) {
            int sum = visitInThought(person, by, door);
            if (sum > most) {
                most = sum;
                best = by;
            }
        }
        return what == 0 ? most : best[what - 10];
    }

    private static void orders(int left, int[] by, int at, List<int[]> orders) {
        if (left == 0) {
            orders.add(by.clone());
        }
        for (int f = 0; f < 10; f++) {
            if ((left >> f & 1) == 1) {
                by[at] = f;
                orders(left & ~(1 << f), by, at + 1, orders);
            }
        }
    }

    boolean undo() {
        if (past.isEmpty()) {
            return false;
        }
        s = past.removeLast();
        return true;
    }

    boolean image(boolean taken) {
        if (taken) {
            kept = s.copy();
            keptTexts = texts.clone();
            return true;
        }
        if (kept == null) {
            return false;
        }
        s = kept.copy();
        texts = keptTexts.clone();
        past.clear();
        return true;
    }

    int look(int what) {
        int stones = 0;
        for (int d = 0; d < s.doors.size(); d++) {
            stones |= s.doors.get(d)[0] << d;
        }
        int[] all = {s.fields.size(), s.doors.size(), s.people.size(), s.wet, s.frost, s.moved, s.day, stones,
            s.book.size(), s.draws, texts[0].lines(), texts[1].lines(), texts[2].lines(), texts[3].lines(), past.size()};
        return what >= 0 && what < all.length ? all[what] : NONE;
    }
}
