/** The edges that promises 1 to 9 and 14 to 18 name; each remark says which promise and which sentence it is for. */
public final class PromiseEdgesTest {
    private static final int NONE = ClayBoots.NONE;
    private static final int LEAST = Integer.MIN_VALUE;
    private static final int MOST = Integer.MAX_VALUE;

    private PromiseEdgesTest() {
    }

    public static void main(String[] args) {
        newObject();
        newObjectThinksOfNothing();
        newObjectsAreApart();
        state();
        fieldThatCantBe();
        fieldAtItsBounds();
        eleventhField();
        door();
        ninthDoor();
        personThatCantBe();
        personAtItsBounds();
        thirteenthPerson();
        setWet();
        setLand();
        setHeel();
        setAnother();
        rowThatCantBe();
        rowAtItsBounds();
        rowByDigits();
        callByNobody();
        callThatBringsNothing();
        actAtDoors();
        actThatIsSo();
        actOfFrost();
        actAnother();
        daysThatCantBe();
        daysAtTheirBounds();
        daysToTheLast();
        daysCountCalls();
        of();
        ofNobody();
        ofAnother();
        fieldOf();
        holder();
        doorOf();
        doorOfWays();
        tells();
        tellsNone();
        book();
        Due.end();
    }

    private static void refused(String what, java.util.function.ToLongFunction<ClayBoots> call, long due) {
        Alike.refused(what, Shires::rich, call, due);
    }

    private static long one(boolean b) {
        return b ? 1 : 0;
    }

    /** Promise 1: "A dry shire." Terms 4: "The constants: `NONE = -1`: None." */
    private static void newObject() {
        ClayBoots x = new ClayBoots();
        Due.is("1 NONE", NONE, -1);
        for (int what = 0; what <= 14; what++) {
            Due.is("1 look(" + what + ")", x.look(what), 0);
        }
        Due.is("1 no field", x.fieldOf(0, 0), NONE - 1);
        Due.is("1 no door", x.doorOf(0, 0), NONE - 1);
        Due.is("1 nobody", x.of(0, 0), NONE);
        Due.is("1 no book", x.book(0, 0), NONE);
        Due.is("1 no fault", x.fault(0), 0);
        Due.is("1 no place", x.fault(1), NONE);
        Due.is("1 nothing to undo", x.undo(), false);
        Due.is("1 no image", x.image(false), false);
        Due.is("1 an empty tape", x.end(1), false);
        Due.is("1 an empty tape has none", x.end(0), true);
    }

    /** Promise 1: "A dry shire." */
    private static void newObjectThinksOfNothing() {
        ClayBoots x = new ClayBoots();
        for (int kind = NONE; kind < 6; kind++) {
            Due.is("1 mix(" + kind + ")", x.mix(kind), 1);
        }
        Due.is("1 swaps", x.back(0), 0);
        Due.is("1 rounds", x.back(1), 0);
        Due.is("1 whose", x.whose(0, 0), NONE);
        Due.is("1 couples", x.couples(198), 0);
        Due.is("1 waiting", x.line(1, 0), 0);
        Due.is("1 done", x.line(1, 1), 0);
        Due.is("1 worth", x.fair(0, 0), 0);
        Due.is("1 first day", x.fair(0, 1), NONE);
        Due.is("1 widow", x.widow(0), NONE);
        Due.is("1 span", x.span(NONE, 0), 0);
        Due.is("1 later", x.later(0), 0);
        Due.is("1 row", x.row(0), 0);
        Due.is("1 ways of a row", x.row(1), 1);
        Due.is("1 game", x.game(0), NONE);
    }

    /** Promise 1: "A dry shire." However much was told to another one. */
    private static void newObjectsAreApart() {
        ClayBoots full = Shires.full();
        ClayBoots x = new ClayBoots();
        for (int what = 0; what <= 14; what++) {
            Due.is("1 apart, look(" + what + ")", x.look(what), 0);
        }
        Due.is("1 apart, wears", x.wear(1, 1), 1);
        Due.is("1 apart, tape", x.feed(0, 0, 0, 0, 0), 20);
        Due.is("1 apart, the full one", full.look(8), 150);
    }

    /** Promise 2: "STATE is told: what it was." */
    private static void state() {
        ClayBoots x = new ClayBoots();
        Due.is("2 at first", x.state(MOST), 0);
        Due.is("2 the greatest", x.state(LEAST), MOST);
        Due.is("2 the least", x.state(-1), LEAST);
        Due.is("2 below 0", x.state(0), -1);
        Due.is("2 none", x.look(9), 0);
        x.act(3, 0);
        Due.is("2 what it was already", x.state(0), 0);
        Due.is("2 it is told all the same", x.look(14), 0);
    }

    /** Promise 3: "A FIELD: the number; NONE if one can't be, or there are ten." */
    private static void fieldThatCantBe() {
        int[][] wrong = {{-1, 5}, {6, 5}, {LEAST, 5}, {MOST, 5}, {0, -1}, {5, 10000}, {0, LEAST}, {5, MOST}, {6, 10000}};
        for (int[] w : wrong) {
            refused("3 field(" + w[0] + ", " + w[1] + ")", x -> x.field(w[0], w[1]), NONE);
        }
    }

    /** Promise 3: "A FIELD: the number; NONE if one can't be, or there are ten." Terms 1: "CLAY 0 .. 5, LAND (hatfuls) 0 .. 9999." */
    private static void fieldAtItsBounds() {
        ClayBoots x = new ClayBoots();
        Due.is("3 clay 0, land 0", x.field(0, 0), 0);
        Due.is("3 clay 5, land 9999", x.field(5, 9999), 1);
        Due.is("3 clay 6", x.field(6, 0), NONE);
        Due.is("3 a refused one takes no number", x.field(4, 1), 2);
        int[][] due = {{0, 0}, {5, 9999}, {4, 1}};
        for (int f = 0; f < 3; f++) {
            Due.is("3 clay of " + f, x.fieldOf(f, 0), due[f][0]);
            Due.is("3 land of " + f, x.fieldOf(f, 1), due[f][1]);
        }
    }

    /** Promise 3: "NONE if one can't be, or there are ten." Terms 1: "1. FIELDS 0 .. 9 as they come: " */
    private static void eleventhField() {
        ClayBoots x = new ClayBoots();
        for (int f = 0; f < 10; f++) {
            Due.is("3 as they come", x.field(f % 6, f), f);
            Due.is("3 so many", x.look(0), f + 1);
        }
        Due.is("3 the tenth", x.fieldOf(9, 1), 9);
        Due.is("3 the eleventh", x.field(0, 0), NONE);
        Alike.refused("3 the eleventh", Shires::full, y -> y.field(0, 0), NONE);
    }

    /** Promise 4: "A DOOR: the number; NONE if there are eight." Terms 1: "DOORS 0 .. 7 as they come: STONE 0, 1; HEAP (of each FIELD how many hatfuls, ints; 0 at first)." */
    private static void door() {
        ClayBoots x = Shires.of(10, 0, 0);
        for (int d = 0; d < 8; d++) {
            Due.is("4 as they come", x.door(d == 0 || d == 7), d);
            Due.is("4 so many", x.look(1), d + 1);
            Due.is("4 stone", x.doorOf(d, 0), d == 0 || d == 7 ? 1 : 0);
            for (int f = 0; f < 10; f++) {
                Due.is("4 no heap at first", x.doorOf(d, 10 + f), 0);
            }
        }
        Due.is("4 the set of stone", x.look(7), 129);
    }

    /** Promise 4: "NONE if there are eight." */
    private static void ninthDoor() {
        Alike.refused("4 the ninth", Shires::full, x -> x.door(false), NONE);
        Alike.refused("4 the ninth, of stone", Shires::full, x -> x.door(true), NONE);
    }

    /** Promise 5: "A PERSON: the number; NONE if one can't be, or there are twelve." */
    private static void personThatCantBe() {
        int[][] wrong = {{-1, 1, 1}, {3, 1, 1}, {8, 1, 1}, {LEAST, 1, 1}, {MOST, 1, 1}, {0, 0, 1}, {0, 10, 1}, {0, -1, 1},
            {0, LEAST, 1}, {0, MOST, 1}, {0, 1, -1}, {0, 1, 10}, {0, 1, LEAST}, {0, 1, MOST}};
        for (int[] w : wrong) {
            refused("5 person(" + w[0] + ", " + w[1] + ", " + w[2] + ")", x -> x.person(w[0], w[1], w[2]), NONE);
        }
        Due.is("5 no home without doors", new ClayBoots().person(0, 1, 1), NONE);
    }

    /** Promise 5: "A PERSON: the number; NONE if one can't be, or there are twelve." Terms 1: "HOME a DOOR, SIZE 1 .. 9, HEEL 0 .. 9;" */
    private static void personAtItsBounds() {
        ClayBoots x = Shires.of(1, 8, 0);
        Due.is("5 the least of all", x.person(0, 1, 0), 0);
        Due.is("5 size 10", x.person(0, 10, 0), NONE);
        Due.is("5 the most of all; a refused one takes no number", x.person(7, 9, 9), 1);
        int[][] due = {{0, 1, 0}, {7, 9, 9}};
        for (int p = 0; p < 2; p++) {
            for (int what = 0; what < 3; what++) {
                Due.is("5 of " + p + " what " + what, x.of(p, what), due[p][what]);
            }
        }
        Due.is("5 boots are empty at first", x.of(1, 4) + x.of(1, 10), 0);
        Due.is("5 called never at first", x.of(1, 3), 0);
    }

    /** Promise 5: "NONE if one can't be, or there are twelve." Terms 1: "PEOPLE 0 .. 11 as they come: " */
    private static void thirteenthPerson() {
        ClayBoots x = Shires.of(1, 2, 0);
        for (int p = 0; p < 12; p++) {
            Due.is("5 as they come", x.person(p % 2, 1, 0), p);
            Due.is("5 so many", x.look(2), p + 1);
        }
        Due.is("5 the twelfth", x.of(11, 0), 1);
        Due.is("5 the thirteenth", x.person(0, 1, 0), NONE);
        Alike.refused("5 the thirteenth", Shires::full, y -> y.person(0, 1, 0), NONE);
    }

    /** Promise 6: "What 0 WET, 1 LAND of FIELD who, 2 HEEL of PERSON who (WET: who not asked): true; false if one can't be, or another what." */
    private static void setWet() {
        ClayBoots x = Shires.rich();
        for (int who : new int[] {LEAST, -1, 0, 99, MOST}) {
            Due.is("6 wet 9, who not asked", x.set(0, who, 9), true);
            Due.is("6 wet 9", x.look(3), 9);
            Due.is("6 wet 0, who not asked", x.set(0, who, 0), true);
            Due.is("6 wet 0", x.look(3), 0);
        }
        for (int v : new int[] {LEAST, -1, 10, MOST}) {
            refused("6 wet " + v, y -> one(y.set(0, 0, v)), 0);
        }
    }

    /** Promise 6: "1 LAND of FIELD who, " and "true; false if one can't be, or another what." */
    private static void setLand() {
        ClayBoots x = Shires.rich();
        for (int f = 0; f < 4; f += 3) {
            Due.is("6 land 9999", x.set(1, f, 9999), true);
            Due.is("6 land 9999 of " + f, x.fieldOf(f, 1), 9999);
            Due.is("6 land 0", x.set(1, f, 0), true);
            Due.is("6 land 0 of " + f, x.fieldOf(f, 1), 0);
        }
        for (int v : new int[] {LEAST, -1, 10000, MOST}) {
            refused("6 land " + v, y -> one(y.set(1, 0, v)), 0);
        }
        for (int who : new int[] {LEAST, -1, 4, 10, MOST}) {
            refused("6 land of field " + who, y -> one(y.set(1, who, 1)), 0);
        }
    }

    /** Promise 6: "2 HEEL of PERSON who (WET: who not asked): true; false if one can't be, or another what." */
    private static void setHeel() {
        ClayBoots x = Shires.rich();
        for (int p = 0; p < 3; p += 2) {
            Due.is("6 heel 9", x.set(2, p, 9), true);
            Due.is("6 heel 9 of " + p, x.of(p, 2), 9);
            Due.is("6 heel 0", x.set(2, p, 0), true);
            Due.is("6 heel 0 of " + p, x.of(p, 2), 0);
        }
        for (int v : new int[] {LEAST, -1, 10, MOST}) {
            refused("6 heel " + v, y -> one(y.set(2, 0, v)), 0);
        }
        for (int who : new int[] {LEAST, -1, 3, 12, MOST}) {
            refused("6 heel of person " + who, y -> one(y.set(2, who, 1)), 0);
        }
    }

    /** Promise 6: "false if one can't be, or another what." */
    private static void setAnother() {
        for (int what : new int[] {LEAST, -1, 3, MOST}) {
            refused("6 what " + what, x -> one(x.set(what, 0, 1)), 0);
        }
    }

    /** Promise 7: "A CALL by FIELDS (a row of digits, the first one highest: 1 and then one to six digits, each a FIELD): hatfuls that came to a HEAP; NONE if it can't be." */
    private static void rowThatCantBe() {
        int[] rows = {LEAST, -10, -1, 0, 1, 2, 9, 20, 21, 99, 100 + 40, 14, 19, 200, 201, 999, 1014, 1041, 1401, 2000, 20000,
            200000, 999999, 1000004, 1400000, 2000000, 9999999, 10000000, 11111111, 100000000, 1000000000, 1111111111, MOST};
        for (int row : rows) {
            refused("7 row " + row, x -> x.call(0, row, 0), NONE);
        }
    }

    /** Promise 7: "1 and then one to six digits, each a FIELD" */
    private static void rowAtItsBounds() {
        int row = 10;
        for (int digits = 1; digits <= 6; digits++) {
            ClayBoots x = Shires.bare(100, "takes 1;leaves 1000;");
            Due.is("7 so many digits: " + digits, x.call(0, row, 0), digits);
            Due.is("7 so many times taken", x.fieldOf(0, 1), 100 - digits);
            row *= 10;
        }
        ClayBoots x = Shires.of(10, 1, 1);
        Due.tell(x, 0, "takes 1;leaves 1000;");
        Due.is("7 the greatest row", x.call(0, 1999999, 0), 6);
        Due.is("7 all of the tenth field", x.doorOf(0, 19), 6);
        Due.is("7 the greatest of one digit", x.call(0, 19, 0), 1);
        Due.is("7 the least row", x.call(0, 10, 0), 1);
    }

    /** Promise 7: "a row of digits, the first one highest" */
    private static void rowByDigits() {
        ClayBoots x = Shires.of(10, 1, 1);
        Due.tell(x, 0, "takes 1+load;leaves 0;");
        Due.is("7 nothing is left", x.call(0, 13058, 0), 0);
        // Size 1: room for ten, of which each field takes one more than all ahead of it: 1, 2, 4, and what is room for.
        int[] due = {2, 0, 0, 1, 0, 4, 0, 0, 3, 0};
        for (int f = 0; f < 10; f++) {
            Due.is("7 taken from " + f, x.of(0, 10 + f), due[f]);
        }
    }

    /** Promise 7: "NONE if it can't be." */
    private static void callByNobody() {
        for (int who : new int[] {LEAST, -1, 3, 12, MOST}) {
            refused("7 person " + who, x -> x.call(who, 10, 0), NONE);
        }
        for (int where : new int[] {LEAST, -1, 3, 8, MOST}) {
            refused("7 door " + where, x -> x.call(0, 10, where), NONE);
        }
        Due.is("7 the last person to the last door", Shires.full().call(11, 19, 7), 0);
        Due.is("7 nobody is there", new ClayBoots().call(0, 10, 0), NONE);
    }

    /** Promise 7: "hatfuls that came to a HEAP; NONE if it can't be." None came: 0, not NONE. */
    private static void callThatBringsNothing() {
        ClayBoots x = Shires.bare(0, "leaves 1000;");
        Due.is("7 no land", x.call(0, 10, 0), 0);
        Due.is("7 it was a call", x.of(0, 3), 1);
        Due.is("7 it can be undone", x.look(14), 1);
        x.set(1, 0, 50);
        x.act(3, 0);
        Due.is("7 frost", x.call(0, 10, 0), 0);
        x.act(4, 0);
        x.act(1, 0);
        Due.is("7 stone", x.call(0, 10, 0), 0);
        Due.is("7 not moved", x.look(5), 0);
    }

    /** Promise 8: "What 0 to SWEEP DOOR who, 1 STONE for DOOR who, 2 no STONE, 3 to FREEZE, 4 to thaw (who not asked): true; false if it is so (1 .. 4), there is none such, or another what." */
    private static void actAtDoors() {
        for (int what = 0; what <= 2; what++) {
            int act = what;
            for (int who : new int[] {LEAST, -1, 3, 8, MOST}) {
                refused("8 act(" + act + ", " + who + ")", x -> one(x.act(act, who)), 0);
            }
        }
        ClayBoots x = Shires.of(1, 8, 1);
        for (int d = 0; d < 8; d += 7) {
            Due.is("8 sweep " + d, x.act(0, d), true);
            Due.is("8 stone for " + d, x.act(1, d), true);
            Due.is("8 is stone " + d, x.doorOf(d, 0), 1);
            Due.is("8 sweep stone, too, " + d, x.act(0, d), true);
            Due.is("8 no stone for " + d, x.act(2, d), true);
            Due.is("8 is no stone " + d, x.doorOf(d, 0), 0);
        }
    }

    /** Promise 8: "false if it is so (1 .. 4)" */
    private static void actThatIsSo() {
        refused("8 is stone already", x -> one(x.act(1, 1)), 0);
        refused("8 is no stone already", x -> one(x.act(2, 0)), 0);
        refused("8 is thawed already", x -> one(x.act(4, 0)), 0);
        Alike.refused("8 is frozen already", () -> {
            ClayBoots x = Shires.rich();
            x.act(3, 0);
            return x;
        }, x -> one(x.act(3, 0)), 0);
        ClayBoots x = Shires.of(1, 1, 1);
        Due.is("8 swept", x.act(0, 0), true);
        Due.is("8 swept already: that is no such", x.act(0, 0), true);
        Due.is("8 two lines", x.look(8), 2);
    }

    /** Promise 8: "3 to FREEZE, 4 to thaw (who not asked)" */
    private static void actOfFrost() {
        ClayBoots x = new ClayBoots();
        for (int who : new int[] {LEAST, -1, 0, 8, MOST}) {
            Due.is("8 freeze", x.act(3, who), true);
            Due.is("8 is frozen", x.look(4), 1);
            Due.is("8 freeze again", x.act(3, who), false);
            Due.is("8 thaw", x.act(4, who), true);
            Due.is("8 is thawed", x.look(4), 0);
            Due.is("8 thaw again", x.act(4, who), false);
        }
    }

    /** Promise 8: "there is none such, or another what." */
    private static void actAnother() {
        for (int what : new int[] {LEAST, -1, 5, MOST}) {
            refused("8 what " + what, x -> one(x.act(what, 0)), 0);
        }
        Due.is("8 no doors at all", new ClayBoots().act(0, 0), false);
    }

    /** Promise 9: "DAYS go by (1 .. 60): how many CALLS there were." and "NONE, and nothing is done, if one can't be, or DAY would be above 9999." */
    private static void daysThatCantBe() {
        for (int n : new int[] {LEAST, -60, -1, 0, 61, MOST}) {
            refused("9 days(" + n + ")", x -> x.days(n), NONE);
        }
    }

    /** Promise 9: "DAYS go by (1 .. 60): how many CALLS there were." */
    private static void daysAtTheirBounds() {
        ClayBoots x = new ClayBoots();
        Due.is("9 one", x.days(1), 0);
        Due.is("9 day 1", x.look(6), 1);
        Due.is("9 sixty", x.days(60), 0);
        Due.is("9 day 61", x.look(6), 61);
    }

    private static ClayBoots atDay(int day) {
        ClayBoots x = Shires.bare(500, "takes 8;leaves 0;");
        for (int left = day; left > 0; left -= 60) {
            x.days(Math.min(60, left));
        }
        x.call(0, 10, 0);
        return x;
    }

    /** Promise 9: "NONE, and nothing is done, if one can't be, or DAY would be above 9999." Terms 1: "DAY 0 .. 9999 (0 at first)." */
    private static void daysToTheLast() {
        Alike.refused("9 from 9998 two", () -> atDay(9998), x -> x.days(2), NONE);
        Alike.refused("9 from 9940 sixty", () -> atDay(9940), x -> x.days(60), NONE);
        Alike.refused("9 from 9999 one", () -> atDay(9999), x -> x.days(1), NONE);
        ClayBoots x = atDay(9939);
        Due.is("9 from 9939 sixty", x.days(60), 0);
        Due.is("9 the last day", x.look(6), 9999);
        Due.is("9 no more", x.days(1), NONE);
        ClayBoots y = atDay(9998);
        Due.is("9 from 9998 one", y.days(1), 0);
        Due.is("9 the last day by one", y.look(6), 9999);
        Due.is("9 half fell on it", y.of(0, 4), 4);
        Due.is("9 day of the line", y.book(1, 0), 9998);
    }

    /** Promise 9: "how many CALLS there were." */
    private static void daysCountCalls() {
        ClayBoots x = Shires.of(1, 1, 1);
        Due.is("9 sixteen lines", Due.tell(x, 1, "on 0person 0by 0to 0;".repeat(16)), 16);
        Due.is("9 sixteen calls of one day", x.days(1), 16);
        Due.is("9 called", x.of(0, 3), 16);
        x.call(0, 10, 0);
        Due.is("9 calls by hand are none of them", x.days(60), 0);
        Due.tell(x, 1, "on 61 person 0 by 0 to 0;on 120 person 0 by 0 to 0;on 121 person 0 by 0 to 0;");
        Due.is("9 from the first to the last of sixty", x.days(60), 2);
        Due.is("9 the next one", x.days(1), 1);
    }

    /** Promise 14: "Of a PERSON what 0 HOME, 1 SIZE, 2 HEEL, 3 CALLED, 4 his load, 10 + f how many of FIELD f are on his BOOTS, 20 + f takes there (0 .. 9)." */
    private static void of() {
        ClayBoots x = Shires.of(10, 8, 12);
        Due.tell(x, 0, "takes clay+2;leaves 0;");
        x.call(11, 190, 7);
        int[] due = {3, 3, 1, 1, 7, NONE, NONE, NONE, NONE, NONE, 2, 0, 0, 0, 0, 0, 0, 0, 0, 5, 2, 3, 4, 5, 6, 7, 2, 3, 4, 5, NONE};
        for (int what = 0; what < due.length; what++) {
            Due.is("14 of(11, " + what + ")", x.of(11, what), due[what]);
        }
    }

    /** Promise 14: "NONE if there is none such, or another what." */
    private static void ofNobody() {
        for (int who : new int[] {LEAST, -1, 3, 12, MOST}) {
            for (int what : new int[] {0, 1, 2, 3, 4, 10, 20}) {
                refused("14 of(" + who + ", " + what + ")", x -> x.of(who, what), NONE);
            }
        }
        ClayBoots x = Shires.rich();
        Due.is("14 boots of the last field", x.of(0, 13), 0);
        Due.is("14 boots of none such", x.of(0, 14), NONE);
        Due.is("14 takes of the last field", x.of(0, 23), 7);
        Due.is("14 takes of none such", x.of(0, 24), NONE);
        Due.is("14 boots of none such", x.of(0, 19), NONE);
        Due.is("14 takes of none such", x.of(0, 29), NONE);
    }

    /** Promise 14: "NONE if there is none such, or another what." */
    private static void ofAnother() {
        ClayBoots x = Shires.full();
        for (int what : new int[] {LEAST, -10, -1, 5, 6, 7, 8, 9, 30, 31, MOST}) {
            Due.is("14 what " + what, x.of(0, what), NONE);
        }
    }

    /** Promise 15: "Of a FIELD what 0 CLAY, 1 LAND, 2 HOLDER (NONE)." and "NONE - 1 if there is none such, or another what." */
    private static void fieldOf() {
        for (int f : new int[] {LEAST, -1, 4, 10, MOST}) {
            for (int what = 0; what <= 2; what++) {
                int of = what;
                refused("15 fieldOf(" + f + ", " + what + ")", x -> x.fieldOf(f, of), NONE - 1);
            }
        }
        ClayBoots x = Shires.full();
        for (int what : new int[] {LEAST, -1, 3, MOST}) {
            Due.is("15 what " + what, x.fieldOf(0, what), NONE - 1);
        }
        Due.is("15 the last clay", x.fieldOf(9, 0), 3);
        Due.is("15 the last land", x.fieldOf(9, 1), 109);
        Due.is("15 nobody", x.fieldOf(9, 2), NONE);
    }

    /** Promise 15: "2 HOLDER (NONE)." Terms 4: "HOLDER of a FIELD: the DOOR with most of it in HEAP (of several the least; none: nobody)." */
    private static void holder() {
        ClayBoots x = Shires.of(10, 8, 1);
        Due.tell(x, 0, "takes 1;leaves 1000;");
        Due.is("15 nobody", x.fieldOf(9, 2), NONE);
        x.call(0, 19, 7);
        Due.is("15 the last door by one", x.fieldOf(9, 2), 7);
        Due.is("15 of another field nobody", x.fieldOf(8, 2), NONE);
        x.call(0, 19, 3);
        Due.is("15 of several the least", x.fieldOf(9, 2), 3);
        x.call(0, 19, 0);
        Due.is("15 of three the least", x.fieldOf(9, 2), 0);
        x.call(0, 19, 7);
        Due.is("15 by one more", x.fieldOf(9, 2), 7);
        x.act(0, 7);
        Due.is("15 swept", x.fieldOf(9, 2), 0);
        x.act(0, 0);
        x.act(0, 3);
        Due.is("15 nobody again", x.fieldOf(9, 2), NONE);
    }

    /** Promise 16: "Of a DOOR what 0 STONE, 1 ACRES, 2 COUNTY (a set), 10 + f how many of FIELD f are in its HEAP (0 .. 9), " and "NONE - 1 if there is none such, or another what." */
    private static void doorOf() {
        for (int d : new int[] {LEAST, -1, 3, 8, MOST}) {
            for (int what : new int[] {0, 1, 2, 10, 20}) {
                refused("16 doorOf(" + d + ", " + what + ")", x -> x.doorOf(d, what), NONE - 1);
            }
        }
        ClayBoots x = Shires.of(10, 8, 1);
        Due.tell(x, 0, "takes 2;leaves 1000;");
        x.call(0, 1098, 7);
        int[] due = {0, 6, 769, -2, -2, -2, -2, -2, -2, -2, 2, 0, 0, 0, 0, 0, 0, 0, 2, 2, -1, -1, -1, -1, -1, -1, -1, -1, -2, -2};
        for (int what = 0; what < due.length; what++) {
            Due.is("16 doorOf(7, " + what + ")", x.doorOf(7, what), due[what]);
        }
        for (int what : new int[] {LEAST, -10, -1, 3, 9, 28, 30, MOST}) {
            Due.is("16 what " + what, x.doorOf(7, what), NONE - 1);
        }
        ClayBoots y = Shires.rich();
        Due.is("16 heap of the last field", y.doorOf(2, 13), 0);
        Due.is("16 heap of none such", y.doorOf(2, 14), NONE - 1);
        Due.is("16 the last door is there", y.doorOf(1, 22), 4);
        Due.is("16 way to none such", y.doorOf(1, 23), NONE - 1);
    }

    /** Promise 16: "20 + d the way to DOOR d by WAYS (NONE: none, itself; 0 .. 7)." Terms 2: "3 WAYS = {door DOOR door DOOR N ;} (either way; unlike; N 1 .. 99; of several between two the shortest.)" */
    private static void doorOfWays() {
        ClayBoots x = Shires.of(0, 8, 0);
        Due.is("16 none", x.doorOf(0, 27), NONE);
        Due.tell(x, 3, "door 0 door 7 99;door 7 door 1 1;door 3 door 2 5;door 2 door 3 4;door 3 door 2 6;");
        Due.is("16 the longest", x.doorOf(0, 27), 99);
        Due.is("16 the other way", x.doorOf(7, 20), 99);
        Due.is("16 the shortest that can be", x.doorOf(1, 27), 1);
        Due.tell(x, 3, "door 7 door 0 98;door 1 door 7 2;door 3 door 2 5;door 2 door 3 4;door 3 door 2 6;");
        Due.is("16 told from the last to the first", x.doorOf(0, 27) * 100 + x.doorOf(7, 20), 9898);
        Due.is("16 told from the other one", x.doorOf(1, 27) * 100 + x.doorOf(7, 21), 202);
        Due.is("16 of several the shortest", x.doorOf(2, 23), 4);
        Due.is("16 of several the shortest, the other way", x.doorOf(3, 22), 4);
        Due.is("16 over another is none", x.doorOf(0, 21), NONE);
        for (int d = 0; d < 8; d++) {
            Due.is("16 itself " + d, x.doorOf(d, 20 + d), NONE);
        }
    }

    /** Promise 17: "leaves (what 0) of a PERSON for a FIELD at a DOOR, strays (1; FIELD not asked) to it, as now." */
    private static void tells() {
        ClayBoots x = Shires.of(10, 8, 12);
        x.act(1, 7);
        Due.tell(x, 0, "leaves land+heel*200+stone;strays land+clay+heel*200+stone;");
        Due.is("17 the last of all", x.tells(11, 9, 7, 0), 109 + 200 + 1);
        Due.is("17 the first of all", x.tells(0, 0, 0, 0), 100);
        Due.is("17 strays of the last", x.tells(11, 9, 7, 1), 201);
        for (int f : new int[] {LEAST, -1, 10, MOST}) {
            Due.is("17 field not asked", x.tells(11, f, 7, 1), 201);
            Due.is("17 field asked", x.tells(11, f, 7, 0), NONE);
        }
        Due.is("17 strays without any field", Shires.of(0, 1, 1).tells(0, 0, 0, 1), 0);
        x.set(2, 11, 2);
        Due.is("17 as now", x.tells(11, 9, 7, 1), 401);
    }

    /** Promise 17: "NONE if there is none such, or another what." */
    private static void tellsNone() {
        for (int wrong : new int[] {LEAST, -1, 4, 12, MOST}) {
            refused("17 field " + wrong, x -> x.tells(0, wrong, 0, 0), NONE);
            refused("17 person " + wrong + ", leaves", x -> x.tells(wrong, 0, 0, 0), NONE);
            refused("17 person " + wrong + ", strays", x -> x.tells(wrong, 0, 0, 1), NONE);
            refused("17 door " + wrong + ", leaves", x -> x.tells(0, 0, wrong, 0), NONE);
            refused("17 door " + wrong + ", strays", x -> x.tells(0, 0, wrong, 1), NONE);
        }
        ClayBoots x = Shires.rich();
        Due.is("17 one person too many", x.tells(3, 0, 0, 0), NONE);
        Due.is("17 one door too many", x.tells(0, 0, 3, 1), NONE);
        for (int what : new int[] {LEAST, -1, 2, MOST}) {
            Due.is("17 what " + what, x.tells(0, 0, 0, what), NONE);
        }
    }

    /** Promise 18: "Of line i of THE BOOK what 0 DAY, 1 what, 2 who, 3 how much." and "NONE if there is none such, or another what." */
    private static void book() {
        ClayBoots x = Shires.of(1, 2, 3);
        Due.is("18 no line yet", x.book(0, 0), NONE);
        x.days(5);
        x.act(0, 1);
        int[] due = {5, 3, 1, 0};
        for (int what = 0; what < 4; what++) {
            Due.is("18 the only line", x.book(0, what), due[what]);
            Due.is("18 no second", x.book(1, what), NONE);
            Due.is("18 none ahead", x.book(-1, what), NONE);
            Due.is("18 none at the least", x.book(LEAST, what), NONE);
            Due.is("18 none at the greatest", x.book(MOST, what), NONE);
        }
        for (int what : new int[] {LEAST, -1, 4, MOST}) {
            Due.is("18 what " + what, x.book(0, what), NONE);
        }
        ClayBoots full = Shires.full();
        Due.is("18 the last line that can be", full.book(149, 1), 1);
        Due.is("18 one beyond", full.book(150, 1), NONE);
    }
}
