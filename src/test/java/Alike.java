import java.util.ArrayList;
import java.util.List;
import java.util.function.Supplier;
import java.util.function.ToLongFunction;

/** Whether a shire with a call and one without it answer alike, whatever they are asked: a refused call changes nothing. */
final class Alike {
    /** An object is good for 512 calls: a shire's making and one group of questions stay far below. */
    private static final int AT_ONCE = 150;
    private static final List<List<Question>> GROUPS = groups();
    private static final List<Question> IMAGE = image();

    private Alike() {
    }

    private record Question(String name, ToLongFunction<ClayBoots> asked) {
    }

    static void refused(String what, Supplier<ClayBoots> made, ToLongFunction<ClayBoots> call, long due) {
        Due.is(what, call.applyAsLong(made.get()), due);
        unchanged(what, made, call);
    }

    static void unchanged(String what, Supplier<ClayBoots> made, ToLongFunction<ClayBoots> call) {
        Supplier<ClayBoots> called = () -> {
            ClayBoots x = made.get();
            call.applyAsLong(x);
            return x;
        };
        butForTheImage(what, called, made);
        compare(what, called.get(), made.get(), IMAGE);
    }

    /** Two shires that may have taken different images, but are alike in all else. */
    static void butForTheImage(String what, Supplier<ClayBoots> one, Supplier<ClayBoots> other) {
        for (List<Question> group : GROUPS) {
            compare(what, one.get(), other.get(), group);
        }
    }

    private static void compare(String what, ClayBoots one, ClayBoots other, List<Question> group) {
        for (Question q : group) {
            Due.is(what + " changes nothing: " + q.name, q.asked.applyAsLong(one), q.asked.applyAsLong(other));
        }
    }

    private static long one(boolean b) {
        return b ? 1 : 0;
    }

    private static void add(List<Question> list, String name, ToLongFunction<ClayBoots> asked) {
        list.add(new Question(name, asked));
    }

    private static List<List<Question>> groups() {
        List<Question> all = new ArrayList<>();
        looks(all);
        people(all);
        land(all);
        texts(all);
        thoughts(all);
        List<List<Question>> groups = new ArrayList<>();
        for (int from = 0; from < all.size(); from += AT_ONCE) {
            groups.add(all.subList(from, Math.min(all.size(), from + AT_ONCE)));
        }
        groups.add(undone());
        groups.add(lists());
        groups.add(later());
        for (int k = 0; k < 4; k++) {
            groups.add(tape(k));
        }
        return groups;
    }

    private static void looks(List<Question> list) {
        for (int w = 0; w <= 14; w++) {
            int what = w;
            add(list, "look(" + what + ")", x -> x.look(what));
        }
        add(list, "fault(0)", x -> x.fault(0));
        add(list, "fault(1)", x -> x.fault(1));
    }

    private static void people(List<Question> list) {
        for (int i = 0; i < 12 * 30; i++) {
            int p = i / 30;
            int what = i % 30;
            add(list, "of(" + p + ", " + what + ")", x -> x.of(p, what));
        }
    }

    private static void land(List<Question> list) {
        for (int i = 0; i < 10 * 3; i++) {
            int f = i / 3;
            int what = i % 3;
            add(list, "fieldOf(" + f + ", " + what + ")", x -> x.fieldOf(f, what));
        }
        for (int i = 0; i < 8 * 28; i++) {
            int d = i / 28;
            int what = i % 28;
            add(list, "doorOf(" + d + ", " + what + ")", x -> x.doorOf(d, what));
        }
        for (int i = 0; i < 150 * 4; i++) {
            int n = i / 4;
            int what = i % 4;
            add(list, "book(" + n + ", " + what + ")", x -> x.book(n, what));
        }
    }

    private static void texts(List<Question> list) {
        for (int i = 0; i < 3 * 4 * 3; i++) {
            int p = i / 12;
            int f = i / 3 % 4;
            int d = i % 3;
            add(list, "tells(" + p + ", " + f + ", " + d + ", 0)", x -> x.tells(p, f, d, 0));
            add(list, "tells(" + p + ", " + f + ", " + d + ", 1)", x -> x.tells(p, f, d, 1));
        }
        for (int i = 0; i < 6 * 3; i++) {
            int n = 1 + i / 3;
            int what = i % 3;
            add(list, "goes(" + n + ", " + what + ")", x -> x.goes(n, what));
        }
        add(list, "would", x -> x.would(0, 0, 0, 0));
        add(list, "many", x -> x.many(0, 0, 0, 20));
        add(list, "order", x -> x.order(0, 0, 7, 0));
        add(list, "later", x -> x.later(5));
        add(list, "first", x -> x.first(1000, 40));
    }

    private static void thoughts(List<Question> list) {
        for (int c = -1; c < 6; c++) {
            int kind = c;
            add(list, "mix(" + kind + ")", x -> x.mix(kind));
        }
        for (int d = 0; d <= 198; d++) {
            int apart = d;
            add(list, "couples(" + apart + ")", x -> x.couples(apart));
        }
        for (int i = 0; i < 100; i++) {
            int left = i / 10 * 11;
            int right = i % 10 * 11;
            add(list, "whose(" + left + ", " + right + ")", x -> x.whose(left, right));
        }
        for (int i = 0; i < 8; i++) {
            int s = 1 + i / 2;
            int what = i % 2;
            add(list, "line(" + s + ", " + what + ")", x -> x.line(s, what));
        }
        for (int i = 0; i < 20; i++) {
            int g = i / 2;
            int what = i % 2;
            add(list, "fair(" + g + ", " + what + ")", x -> x.fair(g, what));
        }
        for (int w = 0; w < 2; w++) {
            int what = w;
            add(list, "back(" + what + ")", x -> x.back(what));
            add(list, "widow(" + what + ")", x -> x.widow(what));
            add(list, "row(" + what + ")", x -> x.row(what));
            add(list, "game(" + what + ")", x -> x.game(what));
        }
        for (int i = -8; i < 64; i++) {
            int a = Math.floorDiv(i, 8);
            int b = Math.floorMod(i, 8);
            add(list, "span(" + a + ", " + b + ")", x -> x.span(a, b));
        }
    }

    private static List<Question> undone() {
        List<Question> list = new ArrayList<>();
        for (int i = 0; i < 7; i++) {
            add(list, "undo()", x -> one(x.undo()));
            looks(list);
        }
        return list;
    }

    private static List<Question> image() {
        List<Question> list = new ArrayList<>();
        add(list, "image(false)", x -> one(x.image(false)));
        looks(list);
        for (int f = 0; f < 10; f++) {
            int field = f;
            add(list, "land of the image", x -> x.fieldOf(field, 1));
            add(list, "boots of the image", x -> x.of(0, 10 + field));
        }
        return list;
    }

    /** How many are told is seen by telling one more. */
    private static List<Question> lists() {
        List<Question> list = new ArrayList<>();
        add(list, "wear(0, 0)", x -> x.wear(0, 0));
        add(list, "caller(0, 1)", x -> x.caller(0, 1));
        add(list, "worth(0)", x -> x.worth(0));
        add(list, "offer(0, 0)", x -> x.offer(0, 0));
        add(list, "worn(0)", x -> x.worn(0));
        return list;
    }

    private static List<Question> later() {
        List<Question> list = new ArrayList<>();
        for (int i = 0; i < 6; i++) {
            add(list, "days(1)", x -> x.days(1));
            looks(list);
        }
        return list;
    }

    /** What the tape holds is seen by telling it, how long it is by what fits behind it. */
    private static List<Question> tape(int k) {
        List<Question> list = new ArrayList<>();
        if (k == 3) {
            add(list, "feed()", x -> x.feed(0, 0, 0, 0, 0));
        }
        add(list, "text(" + k + ")", x -> x.text(k));
        looks(list);
        return list;
    }
}
