import java.util.Random;

/** Random runs of calls, each answer against the model's. */
public final class ModelTest {
    private static Random random;
    private static ClayBoots x;
    private static Model m;
    private static String run;

    private ModelTest() {
    }

    public static void main(String[] args) {
        for (int seed = 0; seed < 3000; seed++) {
            random = new Random(seed);
            x = new ClayBoots();
            m = new Model();
            run = "run " + seed + ": ";
            begin();
            for (int i = 0; i < 150; i++) {
                if (random.nextInt(3) > 0) {
                    ask();
                } else {
                    change();
                }
            }
            lookAround();
        }
        Due.end();
    }

    private static int below(int n) {
        return random.nextInt(n);
    }

    /** Mostly 0 .. n - 1, at times beyond. */
    private static int about(int n) {
        return below(12) == 0 ? below(n + 4) - 2 : below(Math.max(1, n));
    }

    private static void begin() {
        int fields = 1 + below(10);
        int doors = 1 + below(8);
        int people = 1 + below(12);
        for (int f = 0; f < fields; f++) {
            int clay = below(6);
            int land = below(4) == 0 ? 9990 + below(10) : below(120);
            Due.is(run + "field", x.field(clay, land), m.field(clay, land));
        }
        for (int d = 0; d < doors; d++) {
            boolean stone = below(4) == 0;
            Due.is(run + "door", x.door(stone), m.door(stone));
        }
        for (int p = 0; p < people; p++) {
            int home = below(doors);
            int size = 1 + below(9);
            int heel = below(10);
            Due.is(run + "person", x.person(home, size, heel), m.person(home, size, heel));
        }
        for (int k = 0; k < 4; k++) {
            text(k);
        }
    }

    private static void text(int k) {
        RandomTexts texts = new RandomTexts(random);
        String text = texts.text(k, m.look(0), m.look(1), m.look(2));
        text = below(8) == 0 ? texts.harmed(text) : text;
        Due.is(run + "text", Due.tell(x, k, text), m.text(k, text));
    }

    private static void change() {
        int a = about(12);
        int b = about(10);
        int c = about(8);
        switch (below(22)) {
            case 0:
                Due.is(run + "state", x.state(a * b * 1234567), m.state(a * b * 1234567));
                break;
            case 1:
                Due.is(run + "field", x.field(c, a), m.field(c, a));
                break;
            case 2:
                Due.is(run + "door", x.door(a == 1), m.door(a == 1));
                break;
            case 3:
                Due.is(run + "person", x.person(c, b, a), m.person(c, b, a));
                break;
            case 4:
                Due.is(run + "set", x.set(c % 3, b, a * c), m.set(c % 3, b, a * c));
                break;
            case 5:
                text(0);
                break;
            case 6:
                text(below(4));
                break;
            case 7:
                boolean taken = below(3) > 0;
                Due.is(run + "image", x.image(taken), m.image(taken));
                break;
            case 8, 9, 10:
                Due.is(run + "undo", x.undo(), m.undo());
                break;
            case 11, 12, 13:
                int n = below(5) == 0 ? about(61) : 1 + below(2);
                Due.is(run + "days", x.days(n), m.days(n));
                break;
            case 14, 15, 16:
                int what = about(5);
                Due.is(run + "act", x.act(what, c), m.act(what, c));
                break;
            default:
                int row = 1;
                for (int i = about(7); i >= 0; i--) {
                    row = row * 10 + Math.max(0, about(m.look(0))) % 10;
                }
                int who = about(m.look(2));
                Due.is(run + "call", x.call(who, row, c), m.call(who, row, c));
                break;
        }
    }

    private static void ask() {
        int p = about(m.look(2));
        int f = about(m.look(0));
        int d = about(m.look(1));
        int what = about(30);
        int set = below(1 << Math.max(1, m.look(0))) & below(1024);
        int n = 1 + below(below(2) == 0 ? 60 : 5);
        switch (below(11)) {
            case 0:
                Due.is(run + "of", x.of(p, what), m.of(p, what));
                break;
            case 1:
                Due.is(run + "fieldOf", x.fieldOf(f, what % 4), m.fieldOf(f, what % 4));
                break;
            case 2:
                Due.is(run + "doorOf", x.doorOf(d, what), m.doorOf(d, what));
                break;
            case 3:
                Due.is(run + "tells", x.tells(p, f, d, what % 3), m.tells(p, f, d, what % 3));
                break;
            case 4:
                Due.is(run + "book", x.book(what * n / 9, what % 5), m.book(what * n / 9, what % 5));
                break;
            case 5:
                Due.is(run + "goes", x.goes(n, what % 4), m.goes(n, what % 4));
                break;
            case 6:
                Due.is(run + "would", x.would(p, f, d, what % 3), m.would(p, f, d, what % 3));
                break;
            case 7:
                Due.is(run + "many", x.many(p, f, d, n), m.many(p, f, d, n));
                break;
            case 8:
                Due.is(run + "order", x.order(p, d, set, 0), m.order(p, d, set, 0));
                break;
            case 9:
                Due.is(run + "order", x.order(p, d, set, 10 + what % 6), m.order(p, d, set, 10 + what % 6));
                break;
            default:
                Due.is(run + "look", x.look(what % 16), m.look(what % 16));
                break;
        }
    }

    /** Some of all that can be looked at, by chance: an object is good for 512 calls. */
    private static void lookAround() {
        for (int i = 0; i < 120; i++) {
            int what = below(32) - 1;
            int who = below(12);
            int line = below(151);
            switch (below(5)) {
                case 0:
                    Due.is(run + "look " + what, x.look(what), m.look(what));
                    break;
                case 1:
                    Due.is(run + "of " + who + " " + what, x.of(who, what), m.of(who, what));
                    break;
                case 2:
                    Due.is(run + "fieldOf " + who + " " + what % 3, x.fieldOf(who, what % 3), m.fieldOf(who, what % 3));
                    break;
                case 3:
                    Due.is(run + "doorOf " + who + " " + what, x.doorOf(who, what), m.doorOf(who, what));
                    break;
                default:
                    line = below(2) == 0 ? line : below(Math.max(1, m.look(8)));
                    Due.is(run + "book " + line, x.book(line, what & 3), m.book(line, what & 3));
                    break;
            }
        }
    }
}
