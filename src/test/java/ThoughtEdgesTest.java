import java.util.function.ToLongFunction;

/** The edges that Terms 4 and promises 19 to 41 name; each remark says which promise and which sentence it is for. */
public final class ThoughtEdgesTest {
    private static final int NONE = ClayBoots.NONE;
    private static final int LEAST = Integer.MIN_VALUE;
    private static final int MOST = Integer.MAX_VALUE;

    private ThoughtEdgesTest() {
    }

    public static void main(String[] args) {
        nothingOfThoughtStays();
        goesThatCantBe();
        goesAtItsBounds();
        goesTellsThree();
        straysInThought();
        would();
        wouldNone();
        acresAndCounty();
        many();
        manyNone();
        order();
        orderOfSeveralTheFirst();
        orderNone();
        clay();
        mixAtItsBounds();
        mixModulo();
        mixNone();
        garden();
        back();
        wear();
        whose();
        couples();
        caller();
        line();
        lineInTurn();
        worth();
        fair();
        fairFirstDay();
        offer();
        widow();
        span();
        apart();
        later();
        first();
        firstWithinDraws();
        worn();
        row();
        game();
        gameOfSeveral();
        Due.end();
    }

    private static void refused(String what, ToLongFunction<ClayBoots> call, long due) {
        Alike.refused(what, Shires::rich, call, due);
    }

    /** Terms 4: "4. IN THOUGHT (nothing of it stays; no DRAWS: he strays, if strays is 500 at least)." */
    private static void nothingOfThoughtStays() {
        for (int what = 0; what <= 2; what++) {
            int of = what;
            Alike.unchanged("T4 goes what " + what, Shires::rich, x -> x.goes(60, of));
            Alike.unchanged("T4 would what " + what, Shires::rich, x -> x.would(0, 0, 1, of % 2));
            Alike.unchanged("T4 line", Shires::rich, x -> x.line(1 + of, of % 2));
            Alike.unchanged("T4 back, fair, widow, row", Shires::rich, x -> x.back(of) + x.fair(of, 0) + x.widow(of) + x.row(of));
        }
        Alike.unchanged("T4 many", Shires::rich, x -> x.many(0, 3, 0, 9999));
        Alike.unchanged("T4 many by stone", Shires::rich, x -> x.many(0, 3, 1, 9999));
        Alike.unchanged("T4 order", Shires::rich, x -> x.order(2, 1, 15, 0));
        Alike.unchanged("T4 mix", Shires::rich, x -> x.mix(NONE));
        Alike.unchanged("T4 whose, couples", Shires::rich, x -> x.whose(5, 5) + x.couples(198));
        Alike.unchanged("T4 span, apart", Shires::rich, x -> x.span(NONE, 0) + x.span(0, 2));
        Alike.unchanged("T4 later, first", Shires::rich, x -> x.later(2000000000) + x.first(1000, 1));
        Alike.unchanged("T4 game", Shires::rich, x -> x.game(0) + x.game(1));
        Alike.unchanged("T4 all that is asked", Shires::rich, x -> x.of(0, 20) + x.fieldOf(0, 2) + x.doorOf(0, 2) + x.tells(0, 0, 1, 1)
                + x.book(0, 0) + x.look(14) + x.fault(1));
    }

    /** Promise 19: "GOES what 0 MOVED, 1 on BOOTS, 2 how many are held. NONE if one can't be, or another what." */
    private static void goesThatCantBe() {
        for (int n : new int[] {LEAST, -1, 0, 61, MOST}) {
            for (int what = 0; what <= 2; what++) {
                int of = what;
                refused("19 goes(" + n + ", " + what + ")", x -> x.goes(n, of), NONE);
            }
        }
        for (int what : new int[] {LEAST, -1, 3, MOST}) {
            refused("19 what " + what, x -> x.goes(1, what), NONE);
        }
    }

    /** Terms 4: "GOES for n (1 .. 60) DAYS: MOVED, hatfuls on BOOTS of all, how many FIELDS are held then." */
    private static void goesAtItsBounds() {
        ClayBoots x = Shires.bare(90, "takes 4;leaves 1000;");
        Due.tell(x, 1, "on 0 person 0 by 0 to 1;on 1 person 0 by 0 to 1;on 59 person 0 by 0 to 1;on 60 person 0 by 0 to 1;");
        Due.is("19 one day", x.goes(1, 0), 4);
        Due.is("19 two days", x.goes(2, 0), 8);
        Due.is("19 59 days", x.goes(59, 0), 8);
        Due.is("19 sixty days", x.goes(60, 0), 12);
        Due.is("19 without anything", new ClayBoots().goes(60, 0), 0);
        Due.is("19 nobody, no boots", new ClayBoots().goes(1, 1), 0);
        Due.is("19 no fields", new ClayBoots().goes(1, 2), 0);
        // Promise 9 refuses days beyond 9999, promise 19 does not.
        for (int day = 0; day < 9960; day += 60) {
            x.days(60);
        }
        x.days(39);
        Due.is("19 the last day", x.look(6), 9999);
        Due.is("9 no day behind it", x.days(1), NONE);
        Due.is("19 in thought there is one", x.goes(60, 0), x.look(5));
    }

    /** Terms 4: "GOES for n (1 .. 60) DAYS: MOVED, hatfuls on BOOTS of all, how many FIELDS are held then." */
    private static void goesTellsThree() {
        ClayBoots x = Shires.of(10, 8, 12);
        Due.tell(x, 0, "takes 8;leaves 250;");
        x.call(11, 19, 7);
        Due.tell(x, 1, "on 0 person 11 by 9 to 7;on 0 person 2 by 8 to 7;");
        // Moved ahead: 2. On day 0: a quarter of 6 + 8 = 14 is 3, and of 8 it is 2; on boots 11 and 6, of which half fall.
        Due.is("19 moved with what was moved ahead", x.goes(1, 0), 2 + 3 + 2);
        Due.is("19 on boots of all", x.goes(1, 1), 11 - 5 + 6 - 3);
        Due.is("19 held", x.goes(1, 2), 2);
        Due.is("19 held as now", x.fieldOf(8, 2), NONE);
        Due.tell(x, 1, "on 0 person 0 by 0 to 0;");
        Due.is("19 the first one's boots, too", x.goes(1, 1), 3 + 3);
        Due.tell(x, 1, "on 0 person 0 by 0 1 2 3 4 5 to 0;on 0 person 1 by 6 7 8 to 0;");
        Due.tell(x, 0, "takes 1;leaves 1000;");
        Due.is("19 all ten are held", x.goes(1, 2), 10);
        // What falls at a home of stone is held by nobody; at another home it is.
        for (boolean stone : new boolean[] {false, true}) {
            ClayBoots y = new ClayBoots();
            y.field(0, 50);
            y.door(!stone);
            y.door(stone);
            y.person(1, 9, 0);
            Due.tell(y, 0, "takes 8;leaves 0;");
            Due.tell(y, 1, "on 0 person 0 by 0 to 0;");
            Due.is("19 held by what falls at home", y.goes(1, 2), stone ? 0 : 1);
        }
    }

    /** Terms 4: "no DRAWS: he strays, if strays is 500 at least" */
    private static void straysInThought() {
        for (int strays : new int[] {0, 1, 499, 500, 501, 1000}) {
            ClayBoots x = Shires.bare(90, "takes 4;leaves 1000;strays " + strays + ";");
            x.act(1, 1);
            int at = strays >= 500 ? 1 : 0;
            Due.is("20 wipes at, strays " + strays, x.would(0, 0, 0, 1), at);
            Due.is("20 behind the last, strays " + strays, x.would(0, 0, 1, 1), 1 - at);
            Due.is("20 hatfuls, strays " + strays, x.would(0, 0, 0, 0), at == 1 ? 0 : 4);
            Due.is("21 many, strays " + strays, x.many(0, 0, 0, 4), at == 1 ? NONE : 1);
            Due.is("22 order, strays " + strays, x.order(0, 0, 1, 0), at == 1 ? 0 : 4);
            Due.tell(x, 1, "on 0 person 0 by 0 to 0;");
            Due.is("19 goes, strays " + strays, x.goes(1, 0), at == 1 ? 0 : 4);
            Due.is("19 no draws", x.look(9), 0);
        }
    }

    /** Promise 20: "WOULD what 0 hatfuls, 1 the DOOR." Terms 4: "WOULD of a CALL by one FIELD: hatfuls that come to a HEAP; the DOOR at which he wipes." */
    private static void would() {
        ClayBoots x = Shires.of(10, 8, 12);
        Due.tell(x, 0, "takes 4;leaves 250;strays 500 when heel=1;");
        Due.is("20 the last of all: hatfuls", x.would(11, 9, 7, 0), 1);
        Due.is("20 the last of all: the door behind the last", x.would(11, 9, 7, 1), 0);
        Due.is("20 the first of all: hatfuls", x.would(0, 0, 0, 0), 1);
        Due.is("20 the first of all: the door", x.would(0, 0, 0, 1), 0);
        x.act(3, 0);
        Due.is("20 none in frost", x.would(0, 0, 0, 0), 0);
        Due.is("20 the door in frost", x.would(0, 0, 7, 1), 7);
    }

    /** Promise 20: "NONE if there is none such, or another what." */
    private static void wouldNone() {
        for (int wrong : new int[] {LEAST, -1, 4, 12, MOST}) {
            for (int what = 0; what <= 1; what++) {
                int of = what;
                refused("20 person " + wrong, x -> x.would(wrong, 0, 0, of), NONE);
                refused("20 field " + wrong, x -> x.would(0, wrong, 0, of), NONE);
                refused("20 door " + wrong, x -> x.would(0, 0, wrong, of), NONE);
            }
        }
        ClayBoots x = Shires.rich();
        Due.is("20 one person too many", x.would(3, 0, 0, 0), NONE);
        Due.is("20 one door too many", x.would(0, 0, 3, 1), NONE);
        for (int what : new int[] {LEAST, -1, 2, MOST}) {
            Due.is("20 what " + what, x.would(0, 0, 0, what), NONE);
        }
    }

    /** Terms 4: "ACRES of a DOOR: its HEAP together; COUNTY: the FIELDS that it holds." */
    private static void acresAndCounty() {
        ClayBoots x = Shires.of(10, 2, 9);
        Due.is("16 no acres", x.doorOf(0, 1), 0);
        Due.is("16 no county", x.doorOf(0, 2), 0);
        Due.tell(x, 0, "takes 1;leaves 1000;");
        x.call(8, 1012345, 1);
        x.call(8, 16789, 1);
        Due.is("16 acres of ten fields", x.doorOf(1, 1), 10);
        Due.is("16 the county is all", x.doorOf(1, 2), 1023);
        x.call(8, 109, 0);
        Due.is("16 of several the least holds", x.doorOf(0, 2), 513);
        Due.is("16 the other not", x.doorOf(1, 2), 1023 - 513);
        Due.is("16 its acres are whole", x.doorOf(1, 1), 10);
    }

    /** Promise 21: "MANY; NONE, too, if there is none such, or n can't be." Terms 4: "MANY of PERSON, FIELD, DOOR, n (1 .. 9999): how many CALLS by that FIELD, one behind the other, till HEAP of the DOOR has n of the FIELD (0 .. 99; not by 99: NONE)." */
    private static void many() {
        ClayBoots x = Shires.bare(9999, "takes 1;leaves 1000;");
        Due.is("21 the first", x.many(0, 0, 1, 1), 1);
        Due.is("21 by 98", x.many(0, 0, 1, 98), 98);
        Due.is("21 by 99", x.many(0, 0, 1, 99), 99);
        Due.is("21 not by 99", x.many(0, 0, 1, 100), NONE);
        x.call(0, 10, 1);
        Due.is("21 has it: none", x.many(0, 0, 1, 1), 0);
        Due.is("21 with what is there by 99", x.many(0, 0, 1, 100), 99);
        Due.is("21 with what is there not by 99", x.many(0, 0, 1, 101), NONE);
        Due.is("21 of the other door", x.many(0, 0, 0, 1), 1);
        Due.tell(x, 0, "takes 90;leaves 1000;");
        Due.is("21 more than n at once", x.many(0, 0, 1, 2), 1);
        Due.is("21 the greatest n: 90 a call", x.many(0, 0, 1, 8911), 99);
        Due.is("21 one more: not by 99", x.many(0, 0, 1, 8912), NONE);
        Due.is("21 the greatest n that is allowed", x.many(0, 0, 1, 9999), NONE);
        x.set(1, 0, 89);
        Due.is("21 the land is just enough", x.many(0, 0, 1, 90), 1);
        Due.is("21 the land is not enough", x.many(0, 0, 1, 91), NONE);
        ClayBoots y = Shires.of(2, 1, 9);
        Due.tell(y, 0, "takes 4;leaves 500;");
        y.call(8, 11, 0);
        Due.is("21 another field's hatfuls are none of them", y.many(8, 0, 0, 3), 2);
    }

    /** Promise 21: "NONE, too, if there is none such, or n can't be." */
    private static void manyNone() {
        for (int n : new int[] {LEAST, -1, 0, 10000, MOST}) {
            refused("21 n " + n, x -> x.many(0, 0, 0, n), NONE);
        }
        for (int wrong : new int[] {LEAST, -1, 4, 12, MOST}) {
            refused("21 person " + wrong, x -> x.many(wrong, 0, 0, 1), NONE);
            refused("21 field " + wrong, x -> x.many(0, wrong, 0, 1), NONE);
            refused("21 door " + wrong, x -> x.many(0, 0, wrong, 1), NONE);
        }
        ClayBoots x = Shires.rich();
        Due.is("21 one person too many", x.many(3, 0, 0, 1), NONE);
        Due.is("21 one door too many", x.many(0, 0, 3, 1), NONE);
        ClayBoots full = Shires.of(10, 8, 12);
        Due.tell(full, 0, "takes 1;leaves 1000;");
        Due.is("21 the last of all", full.many(11, 9, 7, 2), 2);
    }

    /** Promise 22: "ORDER what 0 how many, 10 + i the i-th FIELD." Terms 4: "ORDER of a PERSON, a DOOR and a set of one to five FIELDS: in which order of all of these one CALL brings most to the HEAP at which he wipes: how many; the i-th FIELD (of several orders the first)." */
    private static void order() {
        ClayBoots x = Shires.of(10, 8, 12);
        // Each field gives the load and its clay, so that the load doubles: the greatest clay first.
        Due.tell(x, 0, "takes load+clay;leaves 1000;");
        Due.is("22 one field", x.order(8, 0, 32, 0), 5);
        Due.is("22 its field", x.order(8, 0, 32, 10), 5);
        Due.is("22 one field: no second", x.order(8, 0, 32, 11), NONE);
        Due.is("22 four fields", x.order(8, 0, 60, 0), 8 * 5 + 4 * 4 + 2 * 3 + 2);
        int[] down = {5, 4, 3, 2};
        for (int i = 0; i < 4; i++) {
            Due.is("22 of four the " + i + "-th field", x.order(8, 0, 60, 10 + i), down[i]);
        }
        Due.is("22 five fields: the room is full", x.order(8, 0, 62, 0), 90);
        // Half the load and the clay: 4, 2 + 5, 5 + 2, 9 + 3, 15 + 1 is the first of five orders by which 46 come.
        Due.tell(x, 0, "takes load/2+clay;leaves 1000;");
        Due.is("22 how many", x.order(8, 0, 62, 0), 46);
        int[] due = {4, 5, 2, 3, 1};
        for (int i = 0; i < 5; i++) {
            Due.is("22 of five the " + i + "-th field", x.order(8, 0, 62, 10 + i), due[i]);
        }
        Due.is("22 no sixth", x.order(8, 0, 62, 15), NONE);
        Due.tell(x, 0, "takes 50 when land=100;takes 1;leaves 1000;");
        Due.is("22 of these alone, one", x.order(8, 0, 2, 0), 1);
        Due.is("22 of these alone, five", x.order(8, 0, 62, 0), 5);
        Due.is("22 of all of these", x.order(8, 0, 63 - 2, 0), 54);
        Due.is("22 the last person to the last door by the last field", x.order(11, 7, 512, 10), 9);
    }

    /** Terms 4: "(of several orders the first)" */
    private static void orderOfSeveralTheFirst() {
        ClayBoots x = Shires.of(10, 1, 9);
        Due.tell(x, 0, "takes 1;leaves 1000;");
        int[] due = {0, 2, 5, 8, 9};
        for (int i = 0; i < 5; i++) {
            Due.is("22 all alike: as they are told", x.order(8, 0, 1 + 4 + 32 + 256 + 512, 10 + i), due[i]);
        }
        // Only by 8 at first, which is of clay 2, five come of it; whatever comes behind it comes in the first order.
        Due.tell(x, 0, "takes 5 when clay=2 and load=0 and land=108;takes 1;leaves 1000;");
        int[] then = {8, 0, 2, 5, 9};
        for (int i = 0; i < 5; i++) {
            Due.is("22 of several orders the first", x.order(8, 0, 1 + 4 + 32 + 256 + 512, 10 + i), then[i]);
        }
        Due.tell(x, 0, "takes 0;");
        Due.is("22 none come: how many", x.order(8, 0, 6, 0), 0);
        Due.is("22 none come: the first order", x.order(8, 0, 6, 10) * 10 + x.order(8, 0, 6, 11), 12);
        // By 1 and 2 he comes with nine, and strays to stone; by 2 and 1 with six, and does not.
        ClayBoots y = Shires.of(3, 2, 9);
        Due.tell(y, 0, "takes 3 when load=0;takes load*clay;leaves 1000;strays 500 when load>8;");
        y.act(1, 1);
        Due.is("22 at the door at which he wipes", y.order(8, 0, 6, 0), 6);
        Due.is("22 that is by 2 ahead of 1", y.order(8, 0, 6, 10), 2);
        y.act(2, 1);
        Due.is("22 at another door, too", y.order(8, 0, 6, 0), 9);
        Due.is("22 that is by 1 ahead of 2", y.order(8, 0, 6, 10), 1);
    }

    /** Promise 22: "NONE if there is none such (a FIELD, too), more than five or none of them, or another what." */
    private static void orderNone() {
        for (int wrong : new int[] {LEAST, -1, 3, 12, MOST}) {
            refused("22 person " + wrong, x -> x.order(wrong, 0, 1, 0), NONE);
            refused("22 door " + wrong, x -> x.order(0, wrong, 1, 0), NONE);
        }
        for (int set : new int[] {LEAST, LEAST + 1, -1, 0, 16, 17, 512, 1024, 1 << 30, MOST}) {
            refused("22 set " + set, x -> x.order(0, 0, set, 0), NONE);
        }
        for (int what : new int[] {LEAST, -1, 1, 2, 9, 12, 13, 14, 15, 20, MOST}) {
            refused("22 what " + what, x -> x.order(0, 0, 3, what), NONE);
        }
        ClayBoots x = Shires.of(10, 1, 1);
        Due.is("22 five of them", x.order(0, 0, 31, 0) == NONE, false);
        Due.is("22 the last five of them", x.order(0, 0, 992, 14), 9);
        Due.is("22 six of them", x.order(0, 0, 63, 0), NONE);
        Due.is("22 all ten of them", x.order(0, 0, 1023, 0), NONE);
        Due.is("22 an eleventh", x.order(0, 0, 1024, 0), NONE);
        Due.is("22 an eleventh and one that is", x.order(0, 0, 1025, 0), NONE);
        Due.is("22 no field at all", Shires.of(0, 1, 1).order(0, 0, 1, 0), NONE);
    }

    /** Promise 23: "CLAYS: the sum of one: true; false if one can't be." Terms 4: "CLAYS: told sums of the CLAYS 0 .. 5 (0 .. 30 each; 0 at first)" */
    private static void clay() {
        int[][] wrong = {{-1, 5}, {6, 5}, {LEAST, 5}, {MOST, 5}, {0, -1}, {0, 31}, {5, LEAST}, {5, MOST}};
        for (int[] w : wrong) {
            refused("23 clay(" + w[0] + ", " + w[1] + ")", x -> x.clay(w[0], w[1]) ? 1 : 0, 0);
        }
        for (int kind = 0; kind <= 5; kind += 5) {
            ClayBoots x = Shires.of(6, 0, 0);
            Due.is("23 at first 0: one way", x.mix(kind), 1);
            Due.is("23 the greatest", x.clay(kind, 30), true);
            x.set(1, kind, 29);
            Due.is("23 30 is told", x.mix(kind), 0);
            Due.is("23 another is not", x.mix(5 - kind), 1);
            x.set(1, kind, 30);
            Due.is("23 30 can be given", x.mix(kind), 1);
            Due.is("23 the least", x.clay(kind, 0), true);
            x.set(1, kind, 0);
            Due.is("23 0 is told", x.mix(kind), 1);
        }
    }

    /** Promise 24: "MIX (kind NONE: of all); NONE if there is no such CLAY." Terms 4: "MIX: in how many ways FIELDS can have given them (of each 0 .. LAND hatfuls, whole ones; modulo 1000000007); of CLAY c alone." */
    private static void mixAtItsBounds() {
        ClayBoots x = new ClayBoots();
        Due.is("24 nothing of no field", x.mix(0), 1);
        x.clay(0, 1);
        Due.is("24 something of no field", x.mix(0), 0);
        Due.is("24 all of it", x.mix(NONE), 0);
        Due.is("24 another alone", x.mix(1), 1);
        x.field(0, 0);
        Due.is("24 of a field without land", x.mix(0), 0);
        x.field(0, 1);
        Due.is("24 of a field of one", x.mix(0), 1);
        x.field(0, 9999);
        Due.is("24 of either of two", x.mix(0), 2);
        x.clay(0, 2);
        Due.is("24 no more than its land", x.mix(0), 2);
        x.set(1, 1, 2);
        Due.is("24 up to its land", x.mix(0), 3);
        x.clay(0, 30);
        x.set(1, 1, 30);
        Due.is("24 31 ways of 30", x.mix(0), 31);
        x.set(1, 2, 29);
        Due.is("24 one way less", x.mix(0), 30);
        x.set(1, 1, 1);
        Due.is("24 just all of both", x.mix(0), 1);
        x.set(1, 1, 0);
        Due.is("24 one is missing", x.mix(0), 0);
    }

    /** Terms 4: "modulo 1000000007" */
    private static void mixModulo() {
        ClayBoots x = new ClayBoots();
        for (int f = 0; f < 10; f++) {
            x.field(5, 9999);
        }
        x.clay(5, 30);
        // 39 over 9 are 211915132.
        Due.is("24 the most of one clay", x.mix(5), 211915132);
        Due.is("24 of all", x.mix(NONE), 211915132);
        ClayBoots y = new ClayBoots();
        for (int f = 0; f < 10; f++) {
            y.field(f % 2, 30);
        }
        y.clay(0, 30);
        y.clay(1, 30);
        // 34 over 4 are 46376; 46376 times 46376 are 2150733376, which is 150733362 beyond twice the modulus.
        Due.is("24 of one", y.mix(1), 46376);
        Due.is("24 beyond the modulus", y.mix(NONE), 150733362);
        ClayBoots z = new ClayBoots();
        for (int f = 0; f < 10; f++) {
            z.field(f % 3, 30);
        }
        for (int c = 0; c < 3; c++) {
            z.clay(c, 30);
        }
        // Four fields give 30 in 33 over 3 ways, which are 5456, three in 32 over 2, which are 496.
        Due.is("24 three beyond the modulus", z.mix(NONE), 5456L * 496 * 496 % 1000000007L);
    }

    /** Promise 24: "NONE if there is no such CLAY." */
    private static void mixNone() {
        for (int kind : new int[] {LEAST, -2, 6, MOST}) {
            refused("24 mix(" + kind + ")", x -> x.mix(kind), NONE);
        }
        Due.is("24 the last clay", Shires.rich().mix(5), 1);
        Due.is("24 NONE is all", Shires.rich().mix(NONE), 6);
    }

    /** Promise 25: "BACK: garden a (0 .. 7) lies with b: true; false if one can't be." Terms 4: "BACK: eight told gardens lie with eight (0 .. 7 each; one's own at first)" */
    private static void garden() {
        for (int wrong : new int[] {LEAST, -1, 8, MOST}) {
            refused("25 garden(" + wrong + ", 0)", x -> x.garden(wrong, 0) ? 1 : 0, 0);
            refused("25 garden(0, " + wrong + ")", x -> x.garden(0, wrong) ? 1 : 0, 0);
        }
        ClayBoots x = new ClayBoots();
        Due.is("25 one's own at first", x.back(0), 0);
        Due.is("25 the last with the first", x.garden(7, 0), true);
        Due.is("25 one has two", x.back(0), NONE);
        Due.is("25 the first with the last", x.garden(0, 7), true);
        Due.is("25 changed", x.back(0), 1);
        Due.is("25 told again", x.garden(7, 7), true);
        Due.is("25 one has two", x.back(0), NONE);
        Due.is("25 one's own again", x.garden(0, 0), true);
        Due.is("25 back", x.back(0), 0);
    }

    private static int backOf(String gardens, int what) {
        ClayBoots x = new ClayBoots();
        for (int g = 0; g < 8; g++) {
            x.garden(g, gardens.charAt(g) - '0');
        }
        return x.back(what);
    }

    /** Promise 26: "BACK what 0 SWAPS, 1 ROUNDS. NONE if one has two, or another what." Terms 4: "SWAPS: the fewest changes of two by which each has his own; ROUNDS: how many rings of two or more (NONE, if one has two)." */
    private static void back() {
        String[] gardens = {"01234567", "10234567", "01234576", "12034567", "10325476", "12345670", "70123456", "12306745", "76543210"};
        int[] swaps = {0, 1, 1, 2, 4, 7, 7, 5, 4};
        int[] rounds = {0, 1, 1, 1, 4, 1, 1, 3, 4};
        for (int i = 0; i < gardens.length; i++) {
            Due.is("26 swaps of " + gardens[i], backOf(gardens[i], 0), swaps[i]);
            Due.is("26 rounds of " + gardens[i], backOf(gardens[i], 1), rounds[i]);
        }
        for (String two : new String[] {"00000000", "77777777", "01234566", "11234567", "07234567"}) {
            Due.is("26 one has two: swaps of " + two, backOf(two, 0), NONE);
            Due.is("26 one has two: rounds of " + two, backOf(two, 1), NONE);
        }
        for (int what : new int[] {LEAST, -1, 2, MOST}) {
            refused("26 what " + what, x -> x.back(what), NONE);
        }
    }

    /** Promise 27: "A wear (left NONE: none is then): how many; NONE if one can't be, or there are ten." Terms 4: "WEARS, up to 10 told (left 0 .. 99, right 0 .. 99)" */
    private static void wear() {
        int[][] wrong = {{-2, 0}, {100, 0}, {LEAST, 0}, {MOST, 0}, {0, -1}, {0, -2}, {0, 100}, {0, LEAST}, {0, MOST}};
        for (int[] w : wrong) {
            refused("27 wear(" + w[0] + ", " + w[1] + ")", x -> x.wear(w[0], w[1]), NONE);
        }
        ClayBoots x = new ClayBoots();
        for (int n = 1; n <= 10; n++) {
            Due.is("27 how many", x.wear(n % 2 * 99, n % 3 / 2 * 99), n);
        }
        Due.is("27 the eleventh", x.wear(5, 5), NONE);
        Alike.refused("27 the eleventh", Shires::full, y -> y.wear(0, 0), NONE);
        Due.is("27 none is then, right not asked", x.wear(NONE, MOST), 0);
        Due.is("27 none is told", x.whose(0, 0), NONE);
        Due.is("27 none of none", x.wear(NONE, LEAST), 0);
        Due.is("27 the first again", x.wear(99, 99), 1);
        Due.is("27 it is the only one", x.couples(198), 0);
    }

    /** Promise 28: "WHOSE of a wear (0 .. 99 each): the number told; NONE if one can't be, or none is told." Terms 4: "WHOSE of a told wear: the nearest one (left and right apart together; of several the first told);" */
    private static void whose() {
        int[][] wrong = {{-1, 0}, {100, 0}, {LEAST, 0}, {MOST, 0}, {0, -1}, {0, 100}, {0, LEAST}, {0, MOST}};
        for (int[] w : wrong) {
            refused("28 whose(" + w[0] + ", " + w[1] + ")", x -> x.whose(w[0], w[1]), NONE);
        }
        ClayBoots x = new ClayBoots();
        Due.is("28 none is told", x.whose(0, 0), NONE);
        x.wear(0, 0);
        Due.is("28 as far as can be", x.whose(99, 99), 0);
        Due.is("28 as near as can be", x.whose(0, 0), 0);
        Due.is("28 at both bounds", x.whose(0, 99) + x.whose(99, 0), 0);
        x.wear(4, 6);
        Due.is("28 five apart each: the first told", x.whose(2, 3), 0);
        Due.is("28 nearer by one on the right", x.whose(2, 4), 1);
        Due.is("28 nearer by one on the left", x.whose(3, 3), 1);
        x.wear(4, 6);
        Due.is("28 itself: the first told", x.whose(4, 6), 1);
        // Seven and nothing apart are as much as three and four, though not by squares, nor by the greater of two.
        ClayBoots y = new ClayBoots();
        y.wear(50, 50);
        y.wear(54, 54);
        Due.is("28 left and right together", y.whose(57, 50), 0);
        for (int n = 0; n < 7; n++) {
            y.wear(0, 0);
        }
        y.wear(99, 99);
        Due.is("28 the tenth", y.whose(99, 99), 9);
    }

    /** Promise 29: "COUPLES; NONE if d can't be." Terms 4: "COUPLES of d (0 .. 198): how many couples are d apart at most." */
    private static void couples() {
        for (int d : new int[] {LEAST, -1, 199, MOST}) {
            refused("29 couples(" + d + ")", x -> x.couples(d), NONE);
        }
        ClayBoots x = new ClayBoots();
        Due.is("29 of none", x.couples(0), 0);
        x.wear(0, 0);
        Due.is("29 of one", x.couples(198), 0);
        x.wear(99, 99);
        Due.is("29 not 197 apart", x.couples(197), 0);
        Due.is("29 198 apart", x.couples(198), 1);
        x.wear(0, 0);
        Due.is("29 not apart at all", x.couples(0), 1);
        Due.is("29 all three", x.couples(198), 3);
        for (int n = 4; n <= 10; n++) {
            x.wear(0, 0);
        }
        Due.is("29 of nine alike", x.couples(0), 36);
        Due.is("29 of all ten", x.couples(198), 45);
        ClayBoots y = new ClayBoots();
        y.wear(10, 20);
        y.wear(12, 17);
        Due.is("29 two and three are not four", y.couples(4), 0);
        Due.is("29 but five", y.couples(5), 1);
    }

    /** Promise 30: "A caller for LINE (come NONE: none is then): how many; NONE if one can't be, or there are ten." Terms 4: "LINE: up to 10 told callers (come 0 .. 99, stay 1 .. 30, " */
    private static void caller() {
        int[][] wrong = {{-2, 1}, {100, 1}, {LEAST, 1}, {MOST, 1}, {0, 0}, {0, -1}, {0, 31}, {0, LEAST}, {0, MOST}};
        for (int[] w : wrong) {
            refused("30 caller(" + w[0] + ", " + w[1] + ")", x -> x.caller(w[0], w[1]), NONE);
        }
        ClayBoots x = new ClayBoots();
        Due.is("30 the least", x.caller(0, 1), 1);
        Due.is("30 is done at 1", x.line(1, 1), 1);
        Due.is("30 the most", x.caller(99, 30), 2);
        Due.is("30 is done at 129", x.line(1, 1), 129);
        for (int n = 3; n <= 10; n++) {
            Due.is("30 how many", x.caller(0, 1), n);
        }
        Due.is("30 the eleventh", x.caller(0, 1), NONE);
        Alike.refused("30 the eleventh", Shires::full, y -> y.caller(0, 1), NONE);
        Due.is("30 none is then, stay not asked", x.caller(NONE, 0), 0);
        Due.is("30 nobody", x.line(1, 1), 0);
        Due.is("30 none of none", x.caller(NONE, MOST), 0);
        Due.is("30 the first again", x.caller(5, 5), 1);
        Due.is("30 alone", x.line(1, 1), 10);
    }

    /** Promise 31: "LINE what 0 the sum of waiting, 1 when the last one is done (none: 0). NONE if s can't be, or another what." */
    private static void line() {
        for (int s : new int[] {LEAST, -1, 0, 5, MOST}) {
            for (int what = 0; what <= 1; what++) {
                int of = what;
                refused("31 line(" + s + ", " + what + ")", x -> x.line(s, of), NONE);
            }
        }
        for (int what : new int[] {LEAST, -1, 2, MOST}) {
            refused("31 what " + what, x -> x.line(1, what), NONE);
        }
        for (int s = 1; s <= 4; s++) {
            Due.is("31 nobody: no waiting", new ClayBoots().line(s, 0), 0);
            Due.is("31 nobody: 0", new ClayBoots().line(s, 1), 0);
        }
        ClayBoots x = new ClayBoots();
        for (int i = 0; i < 10; i++) {
            x.caller(0, 30);
        }
        // Ten at once: of one scraper they wait 0, 30, .. 270; of four 4 wait 30, 2 wait 60.
        Due.is("31 all wait for one", x.line(1, 0), 30 * 45);
        Due.is("31 the last one is done", x.line(1, 1), 300);
        Due.is("31 of two", x.line(2, 0) * 1000 + x.line(2, 1), 2 * (30 + 60 + 90 + 120) * 1000 + 150);
        Due.is("31 of three", x.line(3, 0) * 1000 + x.line(3, 1), (3 * 30 + 3 * 60 + 90) * 1000 + 120);
        Due.is("31 of four", x.line(4, 0) * 1000 + x.line(4, 1), (4 * 30 + 2 * 60) * 1000 + 90);
    }

    /** Terms 4: "in the order told; one who comes later is behind): of s (1 .. 4) scrapers: callers by when they come (of several the first told), each at the scraper that is free first: the sum of their waiting; when the last one is done." */
    private static void lineInTurn() {
        ClayBoots x = new ClayBoots();
        x.caller(10, 5);
        x.caller(0, 10);
        // He comes just as the other is done: no waiting.
        Due.is("31 just in time", x.line(1, 0), 0);
        Due.is("31 done", x.line(1, 1), 15);
        x.caller(9, 1);
        // 0 to 10; he of 9 is ahead of him of 10, though told last: 10 to 11, 11 to 16.
        Due.is("31 by when they come", x.line(1, 0), 1 + 1);
        Due.is("31 done then", x.line(1, 1), 16);
        x.caller(10, 20);
        // Of him and the one of 10 told ahead: 16 to 36.
        Due.is("31 of several the first told", x.line(1, 0), 1 + 1 + 6);
        Due.is("31 done last", x.line(1, 1), 36);
        // Of two: 0 to 10, 9 to 10, then 10 to 15 and 10 to 30: nobody waits, and the last to begin is not the last to be done.
        Due.is("31 nobody waits", x.line(2, 0), 0);
        Due.is("31 the last one done", x.line(2, 1), 30);
        ClayBoots y = new ClayBoots();
        y.caller(0, 30);
        y.caller(0, 2);
        y.caller(1, 1);
        Due.is("31 at the one that is free first", y.line(2, 0), 1);
        Due.is("31 he that came first is done last", y.line(2, 1), 30);
    }

    /** Promise 32: "A day's worth for FAIR (NONE: none is then): how many; NONE if one can't be, or there are twenty." Terms 4: "FAIR: up to 20 told days' worth (0 .. 99)" */
    private static void worth() {
        for (int v : new int[] {LEAST, -2, 100, MOST}) {
            refused("32 worth(" + v + ")", x -> x.worth(v), NONE);
        }
        ClayBoots x = new ClayBoots();
        Due.is("32 the least", x.worth(0), 1);
        Due.is("32 the most", x.worth(99), 2);
        for (int n = 3; n <= 20; n++) {
            Due.is("32 how many", x.worth(1), n);
        }
        Due.is("32 all of them", x.fair(0, 0), 99 + 18);
        Due.is("32 the twenty-first", x.worth(1), NONE);
        Alike.refused("32 the twenty-first", Shires::full, y -> y.worth(1), NONE);
        Due.is("32 none is then", x.worth(NONE), 0);
        Due.is("32 no worth", x.fair(0, 0), 0);
        Due.is("32 none of none", x.worth(NONE), 0);
        Due.is("32 the first again", x.worth(7), 1);
        Due.is("32 alone", x.fair(0, 0), 7);
    }

    /** Promise 33: "FAIR what 0 worth, 1 the first day. NONE if g can't be, none is told (1), or another what." Terms 4: "of g (0 .. 9) days that must lie between two calls: the most worth;" */
    private static void fair() {
        for (int g : new int[] {LEAST, -1, 10, MOST}) {
            for (int what = 0; what <= 1; what++) {
                int of = what;
                refused("33 fair(" + g + ", " + what + ")", x -> x.fair(g, of), NONE);
            }
        }
        for (int what : new int[] {LEAST, -1, 2, MOST}) {
            refused("33 what " + what, x -> x.fair(0, what), NONE);
        }
        Due.is("33 none is told: worth", new ClayBoots().fair(9, 0), 0);
        Due.is("33 none is told: first day", new ClayBoots().fair(9, 1), NONE);
        ClayBoots x = new ClayBoots();
        for (int day = 0; day < 20; day++) {
            x.worth(1);
        }
        // With g days between, one of g + 1 days is called on: of twenty so many, upwards.
        for (int g = 0; g <= 9; g++) {
            Due.is("33 one of " + (g + 1), x.fair(g, 0), (20 + g) / (g + 1));
            Due.is("33 from the first", x.fair(g, 1), 0);
        }
        ClayBoots y = new ClayBoots();
        for (int day = 0; day < 11; day++) {
            y.worth(day == 0 || day == 10 ? 50 : 1);
        }
        Due.is("33 nine lie just between", y.fair(9, 0), 100);
        y.worth(NONE);
        for (int day = 0; day < 10; day++) {
            y.worth(day == 0 || day == 9 ? 50 : 1);
        }
        Due.is("33 eight are too few for nine", y.fair(9, 0), 50);
        Due.is("33 and enough for eight", y.fair(8, 0), 100);
    }

    private static int firstDay(int g, int... worths) {
        ClayBoots x = new ClayBoots();
        for (int worth : worths) {
            x.worth(worth);
        }
        return x.fair(g, 1);
    }

    /** Terms 4: "the first day called on (of several sets the one with the least first day; no worth at all: day 0)." */
    private static void fairFirstDay() {
        Due.is("33 no worth at all", firstDay(0, 0), 0);
        Due.is("33 no worth at all of three", firstDay(9, 0, 0, 0), 0);
        Due.is("33 the greater one", firstDay(1, 3, 4), 1);
        Due.is("33 like ones: the least", firstDay(1, 4, 4), 0);
        Due.is("33 of several sets", firstDay(1, 5, 9, 6, 2), 0);
        Due.is("33 by one more", firstDay(1, 5, 9, 6, 3), 1);
        Due.is("33 the last one alone", firstDay(9, 1, 1, 1, 5), 3);
        Due.is("33 a day of no worth may be the first", firstDay(1, 0, 0, 5), 0);
        Due.is("33 if it does not lie in the way", firstDay(2, 0, 0, 5), 2);
    }

    /** Promise 34: "An offer (farmer NONE: none is then): how many; NONE if one can't be, or there are eight." Terms 4: "WIDOW: up to 8 told offers (a farmer 0 .. 3, 0 .. 99)" */
    private static void offer() {
        int[][] wrong = {{-2, 5}, {4, 5}, {LEAST, 5}, {MOST, 5}, {0, -1}, {0, 100}, {3, LEAST}, {3, MOST}};
        for (int[] w : wrong) {
            refused("34 offer(" + w[0] + ", " + w[1] + ")", x -> x.offer(w[0], w[1]), NONE);
        }
        ClayBoots x = new ClayBoots();
        for (int n = 1; n <= 7; n++) {
            Due.is("34 how many", x.offer(0, 0), n);
        }
        Due.is("34 the eighth", x.offer(3, 99), 8);
        Due.is("34 it counts", x.widow(0), 3);
        Due.is("34 the ninth", x.offer(0, 0), NONE);
        Alike.refused("34 the ninth", Shires::full, y -> y.offer(0, 0), NONE);
        Due.is("34 none is then, v not asked", x.offer(NONE, 1000), 0);
        Due.is("34 nobody", x.widow(0), NONE);
        Due.is("34 none of none", x.offer(NONE, -5), 0);
        Due.is("34 the first again", x.offer(1, 1), 1);
        Due.is("34 alone", x.widow(0) * 10 + x.widow(1), 10);
    }

    private static int widowOf(int... offers) {
        ClayBoots x = new ClayBoots();
        for (int i = 0; i + 1 < offers.length; i += 2) {
            x.offer(offers[i], offers[i + 1]);
        }
        return x.widow(0) * 100 + x.widow(1);
    }

    /** Promise 35: "WIDOW what 0 who, 1 what he pays. NONE without offers, or for another what." Terms 4: "each farmer's greatest one counts: who offers most (of several the least); what he pays: the next one's greatest (0: nobody)." */
    private static void widow() {
        for (int what : new int[] {LEAST, -1, 2, MOST}) {
            refused("35 what " + what, x -> x.widow(what), NONE);
        }
        Due.is("35 without offers: who", new ClayBoots().widow(0), NONE);
        Due.is("35 without offers: what he pays", new ClayBoots().widow(1), NONE);
        Due.is("35 nothing is an offer, too", widowOf(3, 0), 300);
        Due.is("35 of two of nothing the least", widowOf(3, 0, 2, 0), 200);
        Due.is("35 one against nothing", widowOf(0, 0, 3, 1), 300);
        Due.is("35 nobody else: 0", widowOf(2, 99, 2, 98), 200);
        Due.is("35 like ones: the least pays as much", widowOf(3, 99, 1, 99), 199);
        Due.is("35 by one more", widowOf(1, 98, 3, 99), 398);
        Due.is("35 the greatest counts, told first", widowOf(0, 50, 0, 10, 1, 40), 40);
        Due.is("35 the greatest counts, told last", widowOf(0, 10, 1, 40, 0, 50), 40);
        Due.is("35 of the next one, too", widowOf(0, 10, 0, 30, 0, 20, 1, 40), 130);
        Due.is("35 the next one of four", widowOf(0, 10, 1, 20, 2, 40, 3, 30), 230);
        Due.is("35 three alike", widowOf(3, 7, 2, 7, 1, 7, 0, 6), 107);
    }

    /** Promise 36: "SPAN (a NONE; no DOORS: 0), APART. NONE if they do not hang together, or one can't be." Terms 4: "SPAN: the least sum of WAYS by which all DOORS hang together;" */
    private static void span() {
        for (int b : new int[] {LEAST, -1, 0, 8, MOST}) {
            Due.is("36 no doors, b not asked", new ClayBoots().span(NONE, b), 0);
            Due.is("36 one door", Shires.of(0, 1, 0).span(NONE, b), 0);
            Due.is("36 two doors without a way", Shires.of(0, 2, 0).span(NONE, b), NONE);
        }
        ClayBoots x = Shires.of(0, 8, 0);
        Due.tell(x, 3, "door 0 door 1 99;door 1 door 2 99;door 2 door 3 99;door 3 door 4 99;door 4 door 5 99;door 5 door 6 99;");
        Due.is("36 the last door hangs alone", x.span(NONE, 0), NONE);
        Due.tell(x, 3, "door 0 door 1 99;door 1 door 2 99;door 2 door 3 99;door 3 door 4 99;door 4 door 5 99;door 5 door 6 99;door 6 door 7 99;");
        Due.is("36 eight in a row", x.span(NONE, 0), 7 * 99);
        Due.tell(x, 3, "door 0 door 1 1;door 2 door 3 1;door 4 door 5 1;door 6 door 7 1;door 0 door 2 1;door 4 door 6 1;");
        Due.is("36 two fours", x.span(NONE, 0), NONE);
        Due.tell(x, 3, "door 0 door 1 1;door 2 door 3 1;door 4 door 5 1;door 6 door 7 1;door 0 door 2 1;door 4 door 6 1;door 7 door 3 9;door 0 door 4 8;");
        Due.is("36 by the lesser way", x.span(NONE, 0), 14);
        ClayBoots y = Shires.of(0, 3, 0);
        Due.tell(y, 3, "door 0 door 1 5;door 1 door 2 5;door 0 door 2 6;");
        Due.is("36 not by all ways, nor by the shortest ones from the first", y.span(NONE, 0), 10);
    }

    /** Promise 36: "APART. NONE if they do not hang together, or one can't be." Terms 4: "APART of two DOORS: the shortest way (NONE)." */
    private static void apart() {
        for (int wrong : new int[] {LEAST, -2, 3, 8, MOST}) {
            refused("36 span(" + wrong + ", 0)", x -> x.span(wrong, 0), NONE);
            refused("36 span(0, " + wrong + ")", x -> x.span(0, wrong), NONE);
        }
        refused("36 span(0, -1)", x -> x.span(0, -1), NONE);
        ClayBoots x = Shires.of(0, 8, 0);
        for (int d = 0; d < 8; d++) {
            Due.is("36 itself", x.span(d, d), 0);
            Due.is("36 no way", x.span(d, (d + 1) % 8), NONE);
        }
        Due.tell(x, 3, "door 0 door 1 99;door 1 door 2 99;door 2 door 3 99;door 3 door 4 99;door 4 door 5 99;door 5 door 6 99;door 6 door 7 99;");
        Due.is("36 all the way", x.span(0, 7), 693);
        Due.is("36 and back", x.span(7, 0), 693);
        Due.tell(x, 3, "door 0 door 7 99;door 0 door 3 49;door 3 door 7 49;door 1 door 2 1;");
        Due.is("36 the way round is shorter", x.span(0, 7), 98);
        Due.is("36 others hang apart", x.span(0, 1), NONE);
        Due.is("36 though they hang together", x.span(2, 1), 1);
        Due.tell(x, 3, "door 0 door 7 98;door 0 door 3 49;door 3 door 7 50;");
        Due.is("36 the way round is longer", x.span(7, 0), 98);
    }

    /** Promise 37: "LATER; 0 if n can't be." Terms 4: "LATER of n (0 .. 2000000000): STATE behind n DRAWS from now;" */
    private static void later() {
        for (int n : new int[] {LEAST, -1, 2000000001, MOST}) {
            refused("37 later(" + n + ")", x -> x.later(n), 0);
        }
        ClayBoots x = new ClayBoots();
        x.state(-7);
        Due.is("37 no draw", x.later(0), -7);
        int then = -7;
        for (int n = 1; n <= 70; n++) {
            then = 1664525 * then + 1013904223;
            Due.is("37 " + n, x.later(n), then);
        }
        for (int n : new int[] {999999999, 1999999999}) {
            // One draw more than n is the draw behind n.
            int behind = x.later(n);
            Due.is("37 one more than " + n, x.later(n + 1), 1664525 * behind + 1013904223);
        }
        // Plainly, draw by draw.
        int plain = -7;
        for (int n = 0; n < 2000000000; n++) {
            plain = 1664525 * plain + 1013904223;
        }
        Due.is("37 the most", x.later(2000000000), plain);
    }

    /** Promise 38: "FIRST; NONE, too, if one can't be." Terms 4: "FIRST of m (2 .. 1000), v (1 .. m)" */
    private static void first() {
        int[][] wrong = {{LEAST, 1}, {-1, 1}, {0, 1}, {1, 1}, {1001, 1}, {MOST, 1}, {2, LEAST}, {2, -1}, {2, 0}, {2, 3}, {1000, 0}, {1000, 1001},
            {10, MOST}, {0, 0}};
        for (int[] w : wrong) {
            refused("38 first(" + w[0] + ", " + w[1] + ")", x -> x.first(w[0], w[1]), NONE);
        }
        ClayBoots x = new ClayBoots();
        Due.is("38 all of two", x.first(2, 2), 1);
        Due.is("38 all of a thousand", x.first(1000, 1000), 1);
        // From 0 the highest bits are 3960563 and 4673577, both odd, and 13749494.
        Due.is("38 half of two", x.first(2, 1), 3);
    }

    /** Terms 4: "behind how many DRAWS (1 .. 999) one of m is below v first (NONE)." */
    private static void firstWithinDraws() {
        int[] states = new int[2000];
        int then = 0;
        int without = 0;
        for (int n = 0; n < 1000000; n++) {
            states[n % 2000] = then;
            then = 1664525 * then + 1013904223;
            boolean nought = (then >>> 8) % 1000 == 0;
            if (nought && without >= 1000) {
                int[][] due = {{1, 1}, {2, 2}, {998, 998}, {999, 999}, {1000, NONE}};
                for (int[] d : due) {
                    ClayBoots x = new ClayBoots();
                    x.state(states[(n + 1 - d[0]) % 2000]);
                    Due.is("38 behind " + d[0] + " draws", x.first(1000, 1), d[1]);
                }
                return;
            }
            without = nought ? 0 : without + 1;
        }
        Due.is("38 such a row of draws is found", false, true);
    }

    /** Promise 39: "A number for WEAR (NONE: none is then): how many; NONE if one can't be, or there are twelve." Terms 4: "WEAR: up to 12 told numbers (0 .. 99)" */
    private static void worn() {
        for (int v : new int[] {LEAST, -2, 100, MOST}) {
            refused("39 worn(" + v + ")", x -> x.worn(v), NONE);
        }
        ClayBoots x = new ClayBoots();
        Due.is("39 the least", x.worn(0), 1);
        Due.is("39 the most", x.worn(99), 2);
        Due.is("39 a row of both", x.row(0), 2);
        for (int n = 3; n <= 12; n++) {
            Due.is("39 how many", x.worn(50), n);
        }
        Due.is("39 the thirteenth", x.worn(50), NONE);
        Alike.refused("39 the thirteenth", Shires::full, y -> y.worn(50), NONE);
        Due.is("39 none is then", x.worn(NONE), 0);
        Due.is("39 no row", x.row(0), 0);
        Due.is("39 none of none", x.worn(NONE), 0);
        Due.is("39 the first again", x.worn(1), 1);
        Due.is("39 alone", x.row(0) * 100 + x.row(1), 101);
    }

    private static int rowOf(int... numbers) {
        ClayBoots x = new ClayBoots();
        for (int v : numbers) {
            x.worn(v);
        }
        return x.row(0) * 1000 + x.row(1);
    }

    /** Promise 40: "WEAR what 0 how many, 1 ways (none told: 0, 1). NONE for another what." Terms 4: "the longest row of them, each greater than the one ahead: how many; in how many ways (by places)." */
    private static void row() {
        for (int what : new int[] {LEAST, -1, 2, MOST}) {
            refused("40 what " + what, x -> x.row(what), NONE);
        }
        Due.is("40 none told", rowOf(), 1);
        Due.is("40 one", rowOf(0), 1001);
        Due.is("40 like ones are no row", rowOf(5, 5), 1002);
        Due.is("40 greater by one", rowOf(5, 6), 2001);
        Due.is("40 less by one", rowOf(6, 5), 1002);
        Due.is("40 by places", rowOf(1, 1, 2, 2), 2004);
        Due.is("40 not in a row of neighbours alone", rowOf(1, 9, 2, 8, 3), 3002);
        Due.is("40 ways of shorter rows are none of them", rowOf(7, 6, 5, 6, 9), 3001);
        Due.is("40 twelve upwards", rowOf(0, 1, 2, 3, 4, 5, 6, 7, 8, 9, 10, 99), 12001);
        Due.is("40 twelve downwards", rowOf(99, 11, 10, 9, 8, 7, 6, 5, 4, 3, 2, 0), 1012);
        Due.is("40 twelve alike", rowOf(7, 7, 7, 7, 7, 7, 7, 7, 7, 7, 7, 7), 1012);
        Due.is("40 the most ways: three of each of four", rowOf(1, 1, 1, 2, 2, 2, 3, 3, 3, 4, 4, 4), 4081);
    }

    /** A shire whose doors have heaps of so many, from one field each as large as can be. */
    private static ClayBoots heaps(int... acres) {
        ClayBoots x = Shires.of(1, acres.length, 9);
        x.set(1, 0, 9999);
        for (int d = 0; d < acres.length; d++) {
            if (acres[d] > 0) {
                Due.tell(x, 0, "takes " + acres[d] + ";leaves 1000;");
                x.call(8, 10, d);
            }
            Due.is("41 acres", x.doorOf(d, 1), acres[d]);
        }
        return x;
    }

    private static int gameOf(int... acres) {
        ClayBoots x = heaps(acres);
        int door = x.game(0);
        int many = x.game(1);
        return door == NONE && many == NONE ? NONE : door * 10 + many;
    }

    /** Promise 41: "GAME what 0 the DOOR, 1 how many. NONE if who begins loses, or for another what." Terms 4: "GAME: from ACRES of DOORS two by turns take 1 up to 3 hatfuls of one; who takes the last one of all wins:" */
    private static void game() {
        for (int what : new int[] {LEAST, -1, 2, MOST}) {
            Due.is("41 what " + what, heaps(1).game(what), NONE);
            refused("41 what " + what, x -> x.game(what), NONE);
        }
        Due.is("41 no doors", new ClayBoots().game(0), NONE);
        Due.is("41 no hatfuls: door", heaps(0).game(0), NONE);
        Due.is("41 no hatfuls: how many", heaps(0).game(1), NONE);
        for (int acres = 0; acres <= 90; acres++) {
            Due.is("41 one heap of " + acres, gameOf(acres), acres % 4 == 0 ? NONE : acres % 4);
        }
    }

    /** Terms 4: "the DOOR (of several the least), how many (the fewest) who begins well takes." Promise 41: "NONE if who begins loses" */
    private static void gameOfSeveral() {
        Due.is("41 like ones lose", gameOf(1, 1), NONE);
        Due.is("41 like ones of eight doors lose", gameOf(3, 3, 3, 3, 3, 3, 3, 3), NONE);
        Due.is("41 1 and 5 lose", gameOf(1, 5), NONE);
        Due.is("41 1, 2 and 3 lose", gameOf(1, 2, 3), NONE);
        Due.is("41 4 and 8 lose", gameOf(4, 8), NONE);
        Due.is("41 of several the least", gameOf(1, 1, 1), 1);
        Due.is("41 none of the first", gameOf(0, 0, 0, 0, 0, 0, 0, 2), 72);
        Due.is("41 1 has not two: of the other two", gameOf(1, 3), 12);
        Due.is("41 of 4 three, so that 1 and 1 are left", gameOf(4, 1), 3);
        Due.is("41 of 4 two, so that 2 and 2 are left", gameOf(4, 2), 2);
        Due.is("41 of 4 one, so that 3 and 3 are left", gameOf(4, 3), 1);
        Due.is("41 of 5 two, so that 3 and 3 are left", gameOf(5, 3), 2);
        Due.is("41 3 and 1 and 1", gameOf(3, 1, 1), 3);
        Due.is("41 1 and 3 and 1", gameOf(1, 3, 1), 13);
    }
}
