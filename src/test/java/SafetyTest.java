import java.lang.management.ManagementFactory;
import java.util.Random;

/** Any calls with any arguments end without an exception, and the same calls give the same answers. */
public final class SafetyTest {
    private static final int[] EDGES = {Integer.MIN_VALUE, Integer.MIN_VALUE + 1, -1000000, -100, -3, -2, -1, 0, 1, 2, 3,
        9, 10, 11, 12, 13, 19, 20, 29, 30, 31, 32, 59, 60, 61, 99, 100, 101, 198, 199, 999, 1000, 1001, 1999999, 2000000,
        9999, 10000, 1023, 1024, 2000000000, 2000000001, Integer.MAX_VALUE - 1, Integer.MAX_VALUE};

    private SafetyTest() {
    }

    public static void main(String[] args) {
        for (int seed = 0; seed < 1500; seed++) {
            Random one = new Random(seed);
            Random two = new Random(seed);
            ClayBoots x = new ClayBoots();
            ClayBoots y = new ClayBoots();
            for (int i = 0; i < 512; i++) {
                Due.is("run " + seed + ", call " + i, anyCall(x, one), anyCall(y, two));
            }
        }
        makesLittle();
        Due.end();
    }

    /** All calls of one run live in one room: what a run makes is made by the constructor. */
    private static void makesLittle() {
        ClayBoots x = PromisesTest.shire();
        Due.tell(x, 0, "takes size*2;leaves 500 when not (load>3 and clay=2);strays 300;");
        Due.tell(x, 1, "on 1 person 0 by 0 1 2 to 0;on 2 person 1 by 2 2 2 2 to 1;");
        for (int again = 0; again < 3; again++) {
            long before = made();
            for (int i = 0; i < 100; i++) {
                x.goes(60, 1);
                x.order(0, 0, 7, 0);
                x.many(0, 0, 0, 9999);
                x.mix(ClayBoots.NONE);
                x.call(0, 1012, 0);
                x.days(60);
                x.undo();
                x.image(i % 2 == 0);
                x.span(0, 1);
                x.line(4, 0);
                x.text(0);
            }
            if (again == 2) {
                Due.is("1100 calls make less than a thousandth of the room", made() - before < 4 * 7300, true);
            }
        }
    }

    private static long made() {
        return ((com.sun.management.ThreadMXBean) ManagementFactory.getThreadMXBean()).getCurrentThreadAllocatedBytes();
    }

    private static long anyCall(ClayBoots x, Random r) {
        int[] v = new int[5];
        for (int i = 0; i < 5; i++) {
            v[i] = r.nextInt(4) == 0 ? EDGES[r.nextInt(EDGES.length)] : r.nextInt(8) == 0 ? r.nextInt() : r.nextInt(12);
        }
        boolean b = r.nextBoolean();
        switch (r.nextInt(46)) {
            case 0: return x.state(v[0]);
            case 1: return x.field(v[0], v[1]);
            case 2: return x.door(b);
            case 3: return x.person(v[0], v[1], v[2]);
            case 4: return x.set(v[0] % 4, v[1], v[2]) ? 1 : 0;
            case 5: return x.call(v[0], b ? v[1] : 10 + Math.abs(v[1] % 10), v[2]);
            case 6: return x.act(v[0] % 6, v[1]) ? 1 : 0;
            case 7: return x.days(v[0]);
            case 8: return x.feed(v[0], v[1], v[2], v[3], v[4]);
            case 9: return x.end(v[0]) ? 1 : 0;
            case 10: return x.text(v[0]);
            case 11: return x.fault(v[0]);
            case 12: return x.of(v[0], v[1]);
            case 13: return x.fieldOf(v[0], v[1]);
            case 14: return x.doorOf(v[0], v[1]);
            case 15: return x.tells(v[0], v[1], v[2], v[3] % 3);
            case 16: return x.book(v[0], v[1]);
            case 17: return x.goes(v[0], v[1] % 4);
            case 18: return x.would(v[0], v[1], v[2], v[3] % 3);
            case 19: return x.many(v[0], v[1], v[2], v[3]);
            case 20: return x.order(v[0], v[1], v[2], v[3]);
            case 21: return x.clay(v[0], v[1]) ? 1 : 0;
            case 22: return x.mix(v[0]);
            case 23: return x.garden(v[0], v[1]) ? 1 : 0;
            case 24: return x.back(v[0]);
            case 25: return x.wear(v[0], v[1]);
            case 26: return x.whose(v[0], v[1]);
            case 27: return x.couples(v[0]);
            case 28: return x.caller(v[0], v[1]);
            case 29: return x.line(v[0], v[1]);
            case 30: return x.worth(v[0]);
            case 31: return x.fair(v[0], v[1]);
            case 32: return x.offer(v[0], v[1]);
            case 33: return x.widow(v[0]);
            case 34: return x.span(v[0], v[1]);
            case 35: return x.later(v[0]);
            case 36: return x.first(v[0], v[1]);
            case 37: return x.worn(v[0]);
            case 38: return x.row(v[0]);
            case 39: return x.game(v[0]);
            case 40: return x.undo() ? 1 : 0;
            case 41: return x.image(b) ? 1 : 0;
            case 42: return x.look(v[0]);
            default: return anyText(x, r);
        }
    }

    private static long anyText(ClayBoots x, Random r) {
        RandomTexts texts = new RandomTexts(r);
        int k = r.nextInt(4);
        String text = texts.text(k, Math.max(1, x.look(0)), Math.max(1, x.look(1)), Math.max(1, x.look(2)));
        return Due.tell(x, k, r.nextInt(4) == 0 ? texts.harmed(text) : text);
    }
}
