/** The edges that Terms 0, 1 and 3 name of draws, calls, days and the book; each remark says which sentence it is for. */
public final class CallEdgesTest {
    private static final int NONE = ClayBoots.NONE;

    private CallEdgesTest() {
    }

    public static void main(String[] args) {
        quotients();
        draws();
        drawsWithoutSign();
        bootsHaveRoom();
        firstOfAll();
        movedByCallsAlone();
        takesNoMoreThanLand();
        takesNoMoreThanRoom();
        takesFieldByField();
        straysAboveNothing();
        straysBelowIt();
        behindTheLastDoor();
        frostAndStone();
        leavesOfAThousand();
        leavesFieldByField();
        calledIsOneMore();
        sky();
        skyIsAheadOfCalls();
        callsLineByLine();
        halfFallsAtHome();
        atHomeOfStone();
        nothingFallsInFrost();
        dayIsOneMore();
        sweep();
        stoneAndFrostByHand();
        bookOfCalls();
        bookOfFalls();
        bookOfSweepings();
        bookIsFull();
        bookIsFullWithinACall();
        Due.end();
    }

    /** Terms 0: "Quotients go downwards." */
    private static void quotients() {
        ClayBoots x = Shires.bare(9, "takes 1;leaves 999;");
        Due.is("T0 999 of a thousand of one", x.call(0, 10, 0), 0);
        Due.is("T0 999 of a thousand of two", x.call(0, 10, 0), 1);
        ClayBoots y = Shires.bare(3, "takes 3;leaves 0;");
        y.call(0, 10, 0);
        y.days(1);
        Due.is("T0 half of three", y.doorOf(0, 10), 1);
    }

    /** Terms 0: "STATE of draws (an int, 0 at first); a DRAW of m: it becomes 1664525 times itself + 1013904223 (ints, which wrap), then it is its highest 24 bits (without sign) modulo m." */
    private static void draws() {
        // 1664525 is odd, so that 2 to the 31 times it is 2 to the 31 again when it wraps.
        int[][] cases = {{0, 1013904223}, {1, 1013904223 + 1664525}, {-1, 1013904223 - 1664525},
            {Integer.MIN_VALUE, -1133579425}, {Integer.MAX_VALUE, -1135243950}};
        for (int[] c : cases) {
            ClayBoots x = Shires.bare(9, "strays 1;");
            Due.is("T0 at first", x.look(9), 0);
            x.state(c[0]);
            Due.is("T0 later", x.later(1), c[1]);
            x.call(0, 10, 0);
            Due.is("T0 one draw", x.look(9), c[1]);
        }
    }

    /** Terms 0: "then it is its highest 24 bits (without sign) modulo m." */
    private static void drawsWithoutSign() {
        // Behind 0 the highest bits of 1013904223 are 3960563; behind the greatest those of 3159723346 are 12342669.
        int[][] cases = {{0, 3960563}, {Integer.MAX_VALUE, 12342669}};
        for (int[] c : cases) {
            ClayBoots x = new ClayBoots();
            x.state(c[0]);
            for (int m : new int[] {2, 3, 7, 10, 999, 1000}) {
                int drawn = c[1] % m;
                Due.is("T0 below one more", x.first(m, drawn + 1), 1);
                Due.is("T0 not below itself", drawn > 0 && x.first(m, drawn) == 1, false);
            }
        }
    }

    /** Terms 1: "BOOTS (of each FIELD how many, 0 at first; together 10 times SIZE at most)" */
    private static void bootsHaveRoom() {
        for (int size = 1; size <= 9; size += 8) {
            ClayBoots x = Shires.of(10, 1, 9);
            int who = size - 1;
            Due.tell(x, 0, "takes 99;leaves 0;");
            for (int f = 0; f < 10; f++) {
                Due.is("T1 empty at first", x.of(who, 10 + f), 0);
            }
            x.call(who, 10, 0);
            Due.is("T1 ten times the size", x.of(who, 10), 10 * size);
            x.call(who, 123, 0);
            Due.is("T1 no more", x.of(who, 4), 10 * size);
            Due.is("T1 none of another", x.of(who, 12), 0);
            Due.is("T1 its land is whole", x.fieldOf(2, 1), 102);
        }
    }

    /** Terms 1: "CALLED (how often, an int, 0 at first)." and "WET 0 .. 9 (0 at first), FROST 0, 1 (0 at first), MOVED (hatfuls that came to HEAPS by calls, an int, 0 at first), DAY 0 .. 9999 (0 at first)." */
    private static void firstOfAll() {
        ClayBoots x = Shires.of(1, 1, 1);
        Due.is("T1 called", x.of(0, 3), 0);
        Due.is("T1 wet", x.look(3), 0);
        Due.is("T1 frost", x.look(4), 0);
        Due.is("T1 moved", x.look(5), 0);
        Due.is("T1 day", x.look(6), 0);
        x.set(0, 0, 9);
        x.act(3, 0);
        Due.is("T1 wet 9", x.look(3), 9);
        Due.is("T1 frost 1", x.look(4), 1);
    }

    /** Terms 1: "MOVED (hatfuls that came to HEAPS by calls, an int, 0 at first)" */
    private static void movedByCallsAlone() {
        ClayBoots x = Shires.bare(100, "takes 8;leaves 250;");
        Due.is("T1 by a call", x.call(0, 10, 1), 2);
        Due.is("T1 moved", x.look(5), 2);
        x.days(1);
        Due.is("T1 three fell", x.doorOf(0, 10), 3);
        Due.is("T1 not by what falls", x.look(5), 2);
        x.act(0, 1);
        Due.is("T1 nor less by what is swept", x.look(5), 2);
    }

    /** Terms 3: "3. A CALL of a PERSON by one to six FIELDS to a DOOR: FIELD by FIELD: takes is asked: so many, no more than LAND, nor than what there is room for on BOOTS, come from LAND to BOOTS." */
    private static void takesNoMoreThanLand() {
        for (int land : new int[] {0, 1, 7, 8, 9}) {
            ClayBoots x = Shires.bare(land, "takes 8;leaves 0;");
            x.call(0, 10, 0);
            int taken = Math.min(8, land);
            Due.is("T3 on boots of " + land, x.of(0, 10), taken);
            Due.is("T3 left of " + land, x.fieldOf(0, 1), land - taken);
        }
        ClayBoots x = Shires.bare(9, "takes 0;leaves 0;");
        x.call(0, 10, 0);
        Due.is("T3 takes nothing", x.of(0, 4), 0);
    }

    /** Terms 3: "nor than what there is room for on BOOTS" */
    private static void takesNoMoreThanRoom() {
        for (int ahead : new int[] {0, 81, 82, 83, 89, 90}) {
            ClayBoots x = Shires.bare(500, "takes " + ahead + ";leaves 0;");
            x.call(0, 10, 0);
            Due.tell(x, 0, "takes 8;leaves 0;");
            x.call(0, 10, 0);
            Due.is("T3 with " + ahead + " on boots", x.of(0, 4), Math.min(90, ahead + 8));
            Due.is("T3 the land gives no more", x.fieldOf(0, 1), 500 - Math.min(90, ahead + 8));
        }
    }

    /** Terms 3: "FIELD by FIELD: takes is asked" */
    private static void takesFieldByField() {
        ClayBoots x = Shires.of(3, 1, 3);
        // Each asks anew: what is on boots by then, and what is left of the land.
        Due.tell(x, 0, "takes 1 when load=0;takes 200-land;leaves 0;");
        x.call(2, 1001, 0);
        // One of 100, then 200 - 99 held to 99: no more than the room of 29.
        Due.is("T3 the same field again", x.of(2, 10), 30);
        Due.is("T3 no room for the third", x.of(2, 11), 0);
        ClayBoots y = Shires.of(3, 1, 3);
        Due.tell(y, 0, "takes 1 when load=0;takes 2 when clay=1;takes 4;leaves 0;");
        y.call(2, 1210, 0);
        Due.is("T3 each by its own clay", y.of(2, 12) * 100 + y.of(2, 11) * 10 + y.of(2, 10), 124);
    }

    /** Terms 3: "Then strays is asked: is it above 0, a DRAW of 1000" */
    private static void straysAboveNothing() {
        ClayBoots x = Shires.bare(90, "strays 0;");
        x.call(0, 10, 0);
        Due.is("T3 not above 0: no draw", x.look(9), 0);
        Due.tell(x, 0, "strays 0-1;");
        x.call(0, 10, 0);
        Due.is("T3 below 0: no draw", x.look(9), 0);
        Due.tell(x, 0, "");
        x.call(0, 10, 0);
        Due.is("T3 untold: no draw", x.look(9), 0);
        Due.tell(x, 0, "strays 1;");
        x.call(0, 1000, 0);
        Due.is("T3 above 0: one draw, of however many fields", x.look(9), 1013904223);
        x.act(3, 0);
        x.state(0);
        x.call(0, 10, 0);
        Due.is("T3 in frost, too", x.look(9), 1013904223);
        x.act(4, 0);
        x.act(1, 0);
        x.state(0);
        x.call(0, 10, 0);
        Due.is("T3 to stone, too", x.look(9), 1013904223);
        // Asked behind the fields: by what is on boots then.
        ClayBoots y = Shires.bare(90, "takes 5;strays 1000 when load=10;leaves 1000;");
        y.call(0, 100, 0);
        Due.is("T3 asked behind the fields", y.book(0, 3), 1);
    }

    /** Terms 3: "below it he wipes at the next DOOR (behind the last one the first), else at this one." */
    private static void straysBelowIt() {
        // From 0 a draw of 1000 is 563.
        int[][] cases = {{1, 0}, {562, 0}, {563, 0}, {564, 1}, {565, 1}, {1000, 1}};
        for (int[] c : cases) {
            ClayBoots x = Shires.bare(90, "takes 4;leaves 1000;strays " + c[0] + ";");
            Due.is("T3 all come", x.call(0, 10, 0), 4);
            Due.is("T3 strays " + c[0], x.doorOf(c[1], 1), 4);
            Due.is("T3 at the other one none", x.doorOf(1 - c[1], 1), 0);
        }
        // 999 is the greatest that is drawn: below 1000 he always strays. 0 is the least: below 1 he strays by it.
        ClayBoots x = Shires.bare(90, "strays 1000;");
        for (int i = 0; i < 50; i++) {
            x.call(0, 10, 0);
            Due.is("T3 always", x.book(x.look(8) - 1, 1) == 0 ? x.book(x.look(8) - 1, 3) : x.book(x.look(8) - 2, 3), 1);
        }
        int state = 0;
        while ((1664525 * state + 1013904223 >>> 8) % 1000 != 0) {
            state++;
        }
        ClayBoots y = Shires.bare(90, "strays 1;");
        y.state(state);
        y.call(0, 10, 0);
        Due.is("T3 0 is below 1", y.book(0, 3), 1);
    }

    /** Terms 3: "(behind the last one the first)" */
    private static void behindTheLastDoor() {
        for (int doors = 1; doors <= 8; doors++) {
            ClayBoots x = Shires.of(1, doors, 1);
            Due.tell(x, 0, "takes 1;leaves 1000;strays 1000;");
            for (int d = 0; d < doors; d++) {
                x.call(0, 10, d);
                Due.is("T3 next to " + d + " of " + doors, x.book(2 * d, 3), (d + 1) % doors);
                Due.is("T3 its heap", x.doorOf((d + 1) % doors, 1), 1);
            }
        }
    }

    /** Terms 3: "Is FROST 0 and that DOOR not STONE:" */
    private static void frostAndStone() {
        for (int bits = 0; bits < 8; bits++) {
            boolean frost = (bits & 1) != 0;
            boolean stone = (bits & 2) != 0;
            boolean strays = (bits & 4) != 0;
            ClayBoots x = new ClayBoots();
            x.field(0, 50);
            // The door to which he goes is of stone just if that at which he wipes by straying is not.
            x.door(strays ? !stone : stone);
            x.door(strays ? stone : !stone);
            x.person(0, 9, 0);
            Due.tell(x, 0, "takes 6;leaves 1000;strays " + (strays ? 1000 : 0) + ";");
            if (frost) {
                x.act(3, 0);
            }
            int due = frost || stone ? 0 : 6;
            Due.is("T3 comes to the heap, " + bits, x.call(0, 10, 0), due);
            Due.is("T3 moved, " + bits, x.look(5), due);
            Due.is("T3 stays on boots, " + bits, x.of(0, 4), 6 - due);
            Due.is("T3 heap, " + bits, x.doorOf(strays ? 1 : 0, 1), due);
            Due.is("T3 called, " + bits, x.of(0, 3), 1);
            Due.is("T3 lines, " + bits, x.look(8), due > 0 ? 2 : 1);
        }
    }

    /** Terms 3: "leaves is asked: so many of a thousand of these (downwards) come to its HEAP (MOVED more)." */
    private static void leavesOfAThousand() {
        int[][] cases = {{0, 0}, {1, 0}, {11, 0}, {12, 1}, {22, 1}, {23, 2}, {500, 45}, {999, 89}, {1000, 90}, {1001, 90}};
        for (int[] c : cases) {
            ClayBoots x = Shires.bare(90, "takes 90;leaves " + c[0] + ";");
            Due.is("T3 of 90 by " + c[0], x.call(0, 10, 1), c[1]);
            Due.is("T3 heap by " + c[0], x.doorOf(1, 10), c[1]);
            Due.is("T3 moved by " + c[0], x.look(5), c[1]);
            Due.is("T3 boots by " + c[0], x.of(0, 10), 90 - c[1]);
        }
        ClayBoots x = Shires.of(2, 1, 9);
        Due.tell(x, 0, "takes 1;leaves 500;");
        Due.is("T3 of each field by itself", x.call(8, 101, 0), 0);
        Due.is("T3 two of each then", x.call(8, 101, 0), 2);
        Due.is("T3 moved of both", x.look(5), 2);
    }

    /** Terms 3: "FIELD 0, 1, .. of which something is on BOOTS: leaves is asked" */
    private static void leavesFieldByField() {
        ClayBoots x = Shires.of(10, 1, 9);
        Due.tell(x, 0, "takes 4;leaves 1000 when load=12;leaves 500 when load=8;leaves 250;");
        // By 9, 5, 0: all of 0 comes first, then half of 5, then a quarter of 9.
        Due.is("T3 by the fields' numbers", x.call(8, 1950, 0), 4 + 2 + 1);
        Due.is("T3 of the first", x.doorOf(0, 10), 4);
        Due.is("T3 of the sixth", x.doorOf(0, 15), 2);
        Due.is("T3 of the tenth", x.doorOf(0, 19), 1);
        // On boots are 4 of field 1, 2 of 5, 3 of 9: a quarter of 4, by the load of 8 half of 2, a quarter of 3.
        Due.is("T3 what was on boots ahead comes, too", x.call(8, 11, 0), 1 + 1 + 0);
        Due.is("T3 of the second", x.doorOf(0, 11), 1);
        Due.is("T3 of the sixth once more", x.doorOf(0, 15), 3);
    }

    /** Terms 3: "CALLED is one more." */
    private static void calledIsOneMore() {
        ClayBoots x = Shires.bare(90, "takes 1 when called=0;takes 2;leaves 1000 when called=0;leaves 0;strays 1000 when called=1;");
        Due.is("T3 not more yet while he calls", x.call(0, 100, 0), 2);
        Due.is("T3 one", x.of(0, 3), 1);
        Due.is("T3 no draw by then", x.look(9), 0);
        x.call(0, 10, 0);
        Due.is("T3 two, of however many fields", x.of(0, 3), 2);
        Due.is("T3 he strayed by one", x.book(2, 3), 1);
    }

    /** Terms 3: "A DAY: (a) line by line of SKY for it: WET is N, FROST is 1, 0." */
    private static void sky() {
        ClayBoots x = Shires.of(0, 1, 0);
        Due.tell(x, 2, "on 1 wet 9;on 0 wet 3;on 0 frost;on 1 wet 0;on 2 thaw;on 2 frost;on 3 frost;on 3 thaw;on 5 wet 7;");
        int[][] due = {{3, 1}, {0, 1}, {0, 1}, {0, 0}, {0, 0}, {7, 0}, {7, 0}};
        for (int day = 0; day < due.length; day++) {
            x.days(1);
            Due.is("T3 wet by day " + day, x.look(3), due[day][0]);
            Due.is("T3 frost by day " + day, x.look(4), due[day][1]);
        }
    }

    /** Terms 3: "(a) line by line of SKY for it" ahead of "(b) Line by line of CALLS for it: the CALL." */
    private static void skyIsAheadOfCalls() {
        ClayBoots x = Shires.bare(90, "takes wet;leaves 1000;");
        Due.tell(x, 1, "on 0 person 0 by 0 to 1;on 1 person 0 by 0 to 1;");
        Due.tell(x, 2, "on 0 wet 5;on 0 frost;on 1 thaw;on 1 wet 4;");
        x.days(1);
        Due.is("T3 it is wet by then", x.of(0, 4), 5);
        Due.is("T3 and frozen", x.doorOf(1, 1), 0);
        x.days(1);
        Due.is("T3 thawed by then", x.doorOf(1, 1), 9);
    }

    /** Terms 3: "(b) Line by line of CALLS for it: the CALL." */
    private static void callsLineByLine() {
        ClayBoots x = new ClayBoots();
        x.field(0, 5);
        x.door(false);
        x.door(false);
        x.person(0, 9, 0);
        x.person(1, 9, 0);
        Due.tell(x, 0, "takes 4;leaves 1000;");
        Due.tell(x, 1, "on 0 person 1 by 0 to 1;on 1 person 0 by 0 to 0;on 0 person 0 by 0 to 0;");
        Due.is("T3 two of three are for it", x.days(1), 2);
        Due.is("T3 the first line first", x.doorOf(1, 1) * 10 + x.doorOf(0, 1), 41);
        Due.is("T3 the book tells it", x.book(0, 2) * 10 + x.book(2, 2), 10);
        Due.is("T3 one is for the next", x.days(1), 1);
        Due.is("T3 none later", x.days(60), 0);
    }

    /** Terms 3: "(c) If FROST is 0: PERSON by PERSON: of each FIELD half of what is on BOOTS, downwards, falls off at HOME: it comes to its HEAP, " */
    private static void halfFallsAtHome() {
        for (int on = 0; on <= 5; on++) {
            ClayBoots x = Shires.bare(90, "takes " + on + ";leaves 0;");
            x.call(0, 10, 1);
            x.days(1);
            Due.is("T3 half of " + on, x.doorOf(0, 10), on / 2);
            Due.is("T3 stays of " + on, x.of(0, 10), on - on / 2);
            Due.is("T3 none where he called", x.doorOf(1, 1), 0);
        }
        ClayBoots x = Shires.of(10, 8, 12);
        Due.tell(x, 0, "takes 3;leaves 0;");
        x.call(11, 190, 0);
        x.call(8, 190, 0);
        x.days(1);
        Due.is("T3 of each field by itself", x.of(11, 10) * 10 + x.of(11, 19), 22);
        Due.is("T3 at the home of the twelfth", x.doorOf(3, 10) * 10 + x.doorOf(3, 19), 11);
        Due.is("T3 at the home of the ninth", x.doorOf(0, 1), 2);
    }

    /** Terms 3: "or, is HOME STONE, to LAND of that FIELD (9999 at most: what is more is blown away)." */
    private static void atHomeOfStone() {
        for (int land : new int[] {0, 9994, 9995, 9996, 9997, 9998, 9999}) {
            ClayBoots x = Shires.bare(8, "takes 8;leaves 0;");
            x.call(0, 10, 1);
            x.act(1, 0);
            x.set(1, 0, land);
            x.days(1);
            Due.is("T3 land of " + land, x.fieldOf(0, 1), Math.min(9999, land + 4));
            Due.is("T3 it is off his boots", x.of(0, 4), 4);
            Due.is("T3 and in no heap", x.doorOf(0, 1), 0);
            Due.is("T3 in the book with all that fell", x.book(1, 3), 4);
        }
        // Person by person: with two of stone the second finds the land full.
        ClayBoots x = new ClayBoots();
        x.field(0, 100);
        x.field(0, 100);
        x.door(true);
        x.person(0, 9, 0);
        x.person(0, 9, 0);
        Due.tell(x, 0, "takes 4;");
        x.call(0, 101, 0);
        x.call(1, 101, 0);
        x.set(1, 0, 9996);
        x.days(1);
        Due.is("T3 full by the second", x.fieldOf(0, 1), 9999);
        Due.is("T3 of the other field both", x.fieldOf(1, 1), 96);
        Due.is("T3 off the second's boots, too", x.of(1, 4), 4);
    }

    /** Terms 3: "(c) If FROST is 0:" */
    private static void nothingFallsInFrost() {
        ClayBoots x = Shires.bare(90, "takes 8;leaves 0;");
        x.call(0, 10, 1);
        x.act(3, 0);
        x.days(3);
        Due.is("T3 all stays on", x.of(0, 4), 8);
        Due.is("T3 no heap", x.doorOf(0, 1), 0);
        Due.is("T3 no line", x.look(8), 1);
        Due.tell(x, 2, "on 3 thaw;on 4 frost;");
        x.days(1);
        Due.is("T3 thawed that day", x.of(0, 4), 4);
        x.days(1);
        Due.is("T3 frozen that day", x.of(0, 4), 4);
    }

    /** Terms 3: "(d) DAY is one more." */
    private static void dayIsOneMore() {
        ClayBoots x = Shires.bare(90, "takes day;leaves 0;");
        Due.tell(x, 1, "on 0 person 0 by 0 to 0;on 1 person 0 by 0 to 0;");
        x.days(1);
        Due.is("T3 behind all else", x.of(0, 4), 0);
        Due.is("T3 day 1", x.look(6), 1);
        x.days(1);
        Due.is("T3 by day 1 one was taken", x.fieldOf(0, 1), 89);
        Due.is("T3 day 2", x.look(6), 2);
        x.call(0, 10, 0);
        x.act(0, 0);
        x.act(3, 0);
        Due.is("T3 by hand no day goes", x.look(6), 2);
    }

    /** Terms 3: "By hand: a CALL; to SWEEP a DOOR (all of its HEAP goes back to LAND, 9999 at most, too);" */
    private static void sweep() {
        for (int land : new int[] {0, 9990, 9991, 9992, 9999}) {
            ClayBoots x = Shires.of(10, 8, 9);
            Due.tell(x, 0, "takes 8;leaves 1000;");
            x.call(8, 190, 7);
            x.call(8, 15, 6);
            x.set(1, 9, land);
            Due.is("T3 swept", x.act(0, 7), true);
            Due.is("T3 land of " + land, x.fieldOf(9, 1), Math.min(9999, land + 8));
            Due.is("T3 of the first field", x.fieldOf(0, 1), 100);
            Due.is("T3 all of its heap is gone", x.doorOf(7, 1), 0);
            Due.is("T3 another's heap is not", x.doorOf(6, 1), 8);
            Due.is("T3 nor is its field fuller", x.fieldOf(5, 1), 97);
        }
        ClayBoots x = Shires.bare(90, "takes 8;leaves 1000;");
        x.call(0, 10, 1);
        x.act(1, 1);
        x.act(3, 0);
        x.act(0, 1);
        Due.is("T3 stone and frost hold no broom", x.doorOf(1, 1), 0);
        Due.is("T3 the land is whole", x.fieldOf(0, 1), 90);
    }

    /** Terms 3: "to lay a floor of STONE, or take it up; to FREEZE, to thaw." */
    private static void stoneAndFrostByHand() {
        ClayBoots x = Shires.bare(90, "takes 8;leaves 1000;");
        x.call(0, 10, 1);
        x.act(1, 1);
        Due.is("T3 the heap lies on", x.doorOf(1, 1), 8);
        Due.is("T3 nothing more comes", x.call(0, 10, 1), 0);
        x.act(2, 1);
        Due.is("T3 taken up", x.call(0, 10, 1), 16);
        x.act(3, 0);
        Due.is("T3 frozen", x.call(0, 10, 1), 0);
        x.act(4, 0);
        Due.is("T3 thawed", x.call(0, 10, 1), 16);
        Due.is("T3 none of it is in the book", x.look(8), 5 + 3);
    }

    private static void line(ClayBoots x, int i, int day, int what, int who, int much) {
        Due.is("T3 day of line " + i, x.book(i, 0), day);
        Due.is("T3 what of line " + i, x.book(i, 1), what);
        Due.is("T3 who of line " + i, x.book(i, 2), who);
        Due.is("T3 how much of line " + i, x.book(i, 3), much);
    }

    /** Terms 3: "DAY, what (0 called, 1 left, 2 fell at home, 3 swept), who (the PERSON; 3: the DOOR), how much (0: the DOOR at which he wiped; 1, 2, 3: hatfuls, 1 of all FIELDS together, " and "1 and 2 a line only if above 0)." */
    private static void bookOfCalls() {
        ClayBoots x = Shires.of(10, 8, 12);
        x.days(9);
        Due.tell(x, 0, "takes 4;leaves 250;");
        x.call(11, 1590, 7);
        line(x, 0, 9, 0, 11, 7);
        line(x, 1, 9, 1, 11, 3);
        Due.tell(x, 0, "takes 0;leaves 0;");
        x.call(11, 10, 6);
        line(x, 2, 9, 0, 11, 6);
        Due.is("T3 no line for nothing left", x.look(8), 3);
        Due.tell(x, 0, "takes 1;leaves 1000;strays 1000;");
        x.call(0, 10, 7);
        line(x, 3, 9, 0, 0, 0);
        line(x, 4, 9, 1, 0, 1);
    }

    /** Terms 3: "2 all that fell of one PERSON; 1 and 2 a line only if above 0)." */
    private static void bookOfFalls() {
        ClayBoots x = Shires.of(10, 8, 12);
        Due.tell(x, 0, "takes 3;leaves 0;");
        x.call(11, 1590, 7);
        x.call(8, 10, 7);
        Due.tell(x, 0, "takes 1;leaves 0;");
        x.call(2, 1023, 7);
        x.days(1);
        line(x, 3, 0, 2, 8, 1);
        line(x, 4, 0, 2, 11, 3);
        Due.is("T3 no line for nothing that fell", x.look(8), 5);
        x.days(1);
        line(x, 5, 1, 2, 8, 1);
        line(x, 6, 1, 2, 11, 3);
        x.days(1);
        Due.is("T3 ones stay on: no line", x.look(8), 7);
    }

    /** Terms 3: "who (the PERSON; 3: the DOOR)" and "1, 2, 3: hatfuls" */
    private static void bookOfSweepings() {
        ClayBoots x = Shires.of(10, 8, 12);
        x.days(2);
        x.act(0, 7);
        line(x, 0, 2, 3, 7, 0);
        Due.tell(x, 0, "takes 3;leaves 1000;");
        x.call(11, 1590, 7);
        x.set(1, 0, 9999);
        x.act(0, 7);
        line(x, 3, 2, 3, 7, 9);
        x.act(0, 7);
        line(x, 4, 2, 3, 7, 0);
    }

    /** Terms 3: "THE BOOK (150 lines; no more then)" */
    private static void bookIsFull() {
        ClayBoots x = Shires.bare(500, "takes 8;leaves 1000;");
        for (int i = 0; i < 149; i++) {
            x.act(0, 1);
            Due.is("T3 lines", x.look(8), i + 1);
        }
        x.days(1);
        x.act(0, 0);
        line(x, 149, 1, 3, 0, 0);
        Due.is("T3 150 lines", x.look(8), 150);
        x.call(0, 10, 0);
        x.days(1);
        x.act(0, 1);
        Due.is("T3 no more then", x.look(8), 150);
        Due.is("T3 no 151st", x.book(150, 0), NONE);
        line(x, 149, 1, 3, 0, 0);
        line(x, 0, 0, 3, 1, 0);
        Due.is("T3 what was done is done", x.doorOf(0, 1), 8);
    }

    /** Terms 3: "THE BOOK (150 lines; no more then)" With one line left of two that a call would write. */
    private static void bookIsFullWithinACall() {
        ClayBoots x = Shires.bare(500, "takes 8;leaves 1000;");
        for (int i = 0; i < 149; i++) {
            x.act(0, 1);
        }
        Due.is("T3 it came to the heap", x.call(0, 10, 0), 8);
        line(x, 149, 0, 0, 0, 0);
        Due.is("T3 the other line is not there", x.look(8), 150);
        x.undo();
        Due.is("T3 undone", x.look(8), 149);
        Due.is("T3 the last line then", x.book(149, 0), NONE);
        x.call(0, 10, 1);
        line(x, 149, 0, 0, 0, 1);
    }
}
