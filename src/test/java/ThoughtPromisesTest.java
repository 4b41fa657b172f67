/** The promises from goes() to look() by hand: ordinary inputs, the edges that the document names, and wrong inputs. */
public final class ThoughtPromisesTest {
    private static final int NONE = ClayBoots.NONE;

    private ThoughtPromisesTest() {
    }

    public static void main(String[] args) {
        goes();
        would();
        many();
        order();
        clayAndMix();
        gardenAndBack();
        wears();
        callersInLine();
        worthAndFair();
        offersForTheWidow();
        span();
        laterAndFirst();
        wornRow();
        game();
        undo();
        undoKeepsSix();
        undoForgets();
        image();
        look();
        Due.end();
    }

    private static void goes() {
        ClayBoots x = PromisesTest.shire();
        Due.is("19 n 0", x.goes(0, 0), NONE);
        Due.is("19 n 61", x.goes(61, 0), NONE);
        Due.is("19 what 3", x.goes(1, 3), NONE);
        Due.is("19 what -1", x.goes(1, -1), NONE);
        Due.tell(x, 0, "takes 8;leaves 250;strays 499 when size=3;strays 500;");
        Due.tell(x, 1, "on 0 person 0 by 0 2 to 0;on 1 person 1 by 0 to 1;on 59 person 0 by 0 to 0;");
        Due.tell(x, 2, "on 1 frost;");
        // Day 0: 2 + 2 of 16 come to door 0, then 3 + 3 of 12 fall at home. Day 1: frost.
        Due.is("19 moved", x.goes(1, 0), 4);
        Due.is("19 boots", x.goes(1, 1), 6);
        Due.is("19 held", x.goes(1, 2), 2);
        Due.is("19 moved in frost", x.goes(60, 0), 4);
        Due.is("19 boots in frost", x.goes(60, 1), 6 + 8 + 8);
        Due.is("19 no draws", x.look(9), 0);
        Due.is("19 nothing stays", x.look(5) + x.look(6) + x.look(8) + x.look(14) + x.of(0, 3), 0);
        Due.is("19 land stays", x.fieldOf(0, 1), 50);
        Due.tell(x, 2, "");
        // Day 1 without frost: at 500 he strays from stone 1 to door 2: 2 of 8.
        Due.is("19 strays in thought", x.goes(2, 0), 6);
        x.days(60);
        Due.is("19 day 60", x.goes(1, 0), x.look(5));
        Due.is("19 without anything", new ClayBoots().goes(60, 2), 0);
    }

    private static void would() {
        ClayBoots x = PromisesTest.shire();
        Due.tell(x, 0, "takes 8;leaves 250;strays 499 when size=3;strays 500;");
        Due.is("20 hatfuls", x.would(0, 0, 0, 0), 2);
        Due.is("20 here at 499", x.would(0, 0, 0, 1), 0);
        Due.is("20 next at 500", x.would(1, 0, 2, 1), 0);
        Due.is("20 stone", x.would(1, 0, 0, 0), 0);
        Due.is("20 off stone", x.would(1, 0, 1, 0), 2);
        Due.is("20 nothing stays", x.look(5) + x.look(8) + x.look(9) + x.of(0, 4) + x.look(14), 0);
        Due.is("20 what 2", x.would(0, 0, 0, 2), NONE);
        Due.is("20 what -1", x.would(0, 0, 0, -1), NONE);
        Due.is("20 person 2", x.would(2, 0, 0, 0), NONE);
        Due.is("20 person -1", x.would(-1, 0, 0, 0), NONE);
        Due.is("20 field 3", x.would(0, 3, 0, 0), NONE);
        Due.is("20 field -1", x.would(0, -1, 0, 0), NONE);
        Due.is("20 door 3", x.would(0, 0, 3, 0), NONE);
        Due.is("20 door -1", x.would(0, 0, -1, 1), NONE);
        x.call(0, 12, 1);
        Due.is("20 with what is on boots", x.would(0, 0, 0, 0), 4);
    }

    private static void many() {
        ClayBoots x = PromisesTest.shire();
        Due.tell(x, 0, "takes 1;leaves 1000;");
        Due.is("21 one each", x.many(0, 2, 0, 99), 99);
        Due.is("21 not by 99", x.many(0, 2, 0, 100), NONE);
        Due.is("21 land is out", x.many(0, 1, 0, 8), NONE);
        Due.is("21 land is just enough", x.many(0, 1, 0, 7), 7);
        Due.is("21 stone", x.many(0, 0, 1, 1), NONE);
        x.call(0, 10, 0);
        Due.is("21 has it", x.many(0, 0, 0, 1), 0);
        Due.is("21 one more", x.many(0, 0, 0, 2), 1);
        Due.tell(x, 0, "takes 1;leaves 1000;strays 500;");
        Due.is("21 strays to another", x.many(0, 0, 0, 2), NONE);
        Due.tell(x, 0, "takes 1;leaves 1000;strays 500 when called>2;");
        Due.is("21 by how often he called", x.many(0, 0, 0, 3), 2);
        Due.is("21 by how often, no more", x.many(0, 0, 0, 4), NONE);
        Due.is("21 n 0", x.many(0, 0, 0, 0), NONE);
        Due.is("21 n 10000", x.many(0, 0, 0, 10000), NONE);
        Due.is("21 n 9999", x.many(0, 0, 0, 9999), NONE);
        Due.is("21 person 2", x.many(2, 0, 0, 1), NONE);
        Due.is("21 field 3", x.many(0, 3, 0, 1), NONE);
        Due.is("21 door 3", x.many(0, 0, 3, 1), NONE);
        Due.is("21 door -1", x.many(0, 0, -1, 1), NONE);
        Due.is("21 nothing stays", x.of(0, 3) * 10 + x.look(8), 12);
    }

    private static void order() {
        ClayBoots x = PromisesTest.shire();
        Due.tell(x, 0, "takes 20-load when clay=2;takes load*3;leaves 1000;");
        // Field 2 gives three times the load; room is 30: 0 2 .. brings 30, 1 first only 7, then 13 of 0 or 21 of 2.
        Due.is("22 how many", x.order(0, 0, 7, 0), 30);
        Due.is("22 first field", x.order(0, 0, 7, 10), 0);
        Due.is("22 second field", x.order(0, 0, 7, 11), 1);
        Due.is("22 third field", x.order(0, 0, 7, 12), 2);
        Due.is("22 of two", x.order(0, 0, 5, 0), 30);
        Due.is("22 1 and 2", x.order(0, 0, 6, 0), 28);
        Due.is("22 1 and 2, first", x.order(0, 0, 6, 10), 1);
        Due.is("22 1 and 2, second", x.order(0, 0, 6, 11), 2);
        Due.is("22 no third", x.order(0, 0, 6, 12), NONE);
        Due.is("22 what 9", x.order(0, 0, 6, 9), NONE);
        Due.is("22 what 1", x.order(0, 0, 6, 1), NONE);
        Due.is("22 what -1", x.order(0, 0, 6, -1), NONE);
        Due.is("22 none of them", x.order(0, 0, 0, 0), NONE);
        Due.is("22 a field that is not", x.order(0, 0, 8, 0), NONE);
        Due.is("22 another too", x.order(0, 0, 9, 0), NONE);
        Due.is("22 below 0", x.order(0, 0, Integer.MIN_VALUE, 0), NONE);
        Due.is("22 person 2", x.order(2, 0, 1, 0), NONE);
        Due.is("22 door 3", x.order(0, 3, 1, 0), NONE);
        Due.is("22 door -1", x.order(0, -1, 1, 0), NONE);
        Due.tell(x, 0, "takes load+1 when clay=5;takes 3-load;leaves 1000;");
        Due.is("22 another order is better", x.order(0, 0, 5, 0), 7);
        Due.is("22 its first", x.order(0, 0, 5, 10), 0);
        Due.tell(x, 0, "takes 3 when clay=5;takes load*2;leaves 1000;");
        Due.is("22 the last field first", x.order(0, 0, 7, 0), 3 + 6 + 18);
        Due.is("22 the last field first", x.order(0, 0, 7, 10) * 100 + x.order(0, 0, 7, 11) * 10 + x.order(0, 0, 7, 12), 210);
        Due.is("22 nothing stays", x.look(5) + x.of(0, 3) + x.look(14), 0);
        x.field(0, 1);
        x.field(0, 1);
        x.field(0, 1);
        Due.is("22 five", x.order(0, 0, 62, 14), 5);
        Due.is("22 six", x.order(0, 0, 63, 0), NONE);
    }

    private static void clayAndMix() {
        ClayBoots x = PromisesTest.shire();
        Due.is("23 kind -1", x.clay(-1, 1), false);
        Due.is("23 kind 6", x.clay(6, 1), false);
        Due.is("23 -1", x.clay(0, -1), false);
        Due.is("23 31", x.clay(0, 31), false);
        x.act(3, 0);
        Due.is("23 30", x.clay(5, 30), true);
        Due.is("23 forgets nothing", x.look(14), 1);
        Due.is("24 one field", x.mix(5), 1);
        Due.is("23 2", x.clay(2, 10), true);
        Due.is("24 two fields", x.mix(2), 8);
        Due.is("24 all", x.mix(NONE), 8);
        Due.is("23 3", x.clay(3, 1), true);
        Due.is("24 a clay of no field", x.mix(3), 0);
        Due.is("24 all", x.mix(NONE), 0);
        Due.is("24 nothing of no field", x.mix(0), 1);
        Due.is("24 kind 6", x.mix(6), NONE);
        Due.is("24 kind -2", x.mix(-2), NONE);
        Due.is("23 0", x.clay(3, 0), true);
        x.set(1, 2, 29);
        Due.is("24 land is too little", x.mix(NONE), 0);
        ClayBoots y = new ClayBoots();
        for (int f = 0; f < 10; f++) {
            y.field(f / 5, 30);
        }
        y.clay(0, 30);
        y.clay(1, 30);
        // Each is 34 over 4 = 46376, and 46376 times 46376 is 2150733376.
        Due.is("24 one", y.mix(0), 46376);
        Due.is("24 modulo", y.mix(NONE), 2150733376L % 1000000007L);
    }

    private static void gardenAndBack() {
        ClayBoots x = new ClayBoots();
        Due.is("25 a -1", x.garden(-1, 0), false);
        Due.is("25 a 8", x.garden(8, 0), false);
        Due.is("25 b -1", x.garden(0, -1), false);
        Due.is("25 b 8", x.garden(0, 8), false);
        Due.is("26 own", x.back(0) * 10 + x.back(1), 0);
        x.act(3, 0);
        Due.is("25 told", x.garden(0, 1), true);
        Due.is("25 forgets nothing", x.look(14), 1);
        Due.is("26 one has two", x.back(0), NONE);
        Due.is("26 one has two", x.back(1), NONE);
        x.garden(1, 2);
        x.garden(2, 0);
        x.garden(7, 4);
        x.garden(4, 7);
        Due.is("26 swaps", x.back(0), 3);
        Due.is("26 rounds", x.back(1), 2);
        Due.is("26 what 2", x.back(2), NONE);
        Due.is("26 what -1", x.back(-1), NONE);
        for (int g = 0; g < 8; g++) {
            x.garden(g, (g + 3) % 8);
        }
        Due.is("26 one ring", x.back(0) * 10 + x.back(1), 71);
    }

    private static void wears() {
        ClayBoots x = new ClayBoots();
        Due.is("28 none told", x.whose(0, 0), NONE);
        Due.is("27 left -2", x.wear(-2, 0), NONE);
        Due.is("27 left 100", x.wear(100, 0), NONE);
        Due.is("27 right -1", x.wear(0, -1), NONE);
        Due.is("27 right 100", x.wear(0, 100), NONE);
        x.act(3, 0);
        Due.is("27 first", x.wear(0, 99), 1);
        Due.is("27 second", x.wear(99, 0), 2);
        Due.is("27 forgets nothing", x.look(14), 1);
        Due.is("28 of several the first", x.whose(50, 50), 0);
        Due.is("28 nearer", x.whose(51, 50), 1);
        Due.is("28 can't be", x.whose(-1, 50), NONE);
        Due.is("28 can't be", x.whose(50, -1), NONE);
        Due.is("28 can't be", x.whose(100, 50), NONE);
        Due.is("28 can't be", x.whose(50, 100), NONE);
        Due.is("29 just apart", x.couples(198), 1);
        Due.is("29 farther", x.couples(197), 0);
        Due.is("29 d -1", x.couples(-1), NONE);
        Due.is("29 d 199", x.couples(199), NONE);
        for (int n = 3; n <= 10; n++) {
            Due.is("27 more", x.wear(50, 50), n);
        }
        Due.is("27 eleventh", x.wear(50, 50), NONE);
        Due.is("29 like ones", x.couples(0), 28);
        Due.is("29 all", x.couples(198), 45);
        Due.is("27 none is then", x.wear(NONE, 777), 0);
        Due.is("29 none", x.couples(5), 0);
        Due.is("27 first again", x.wear(1, 2), 1);
    }

    private static void callersInLine() {
        ClayBoots x = new ClayBoots();
        Due.is("31 none", x.line(1, 0) * 10 + x.line(4, 1), 0);
        Due.is("30 come -2", x.caller(-2, 1), NONE);
        Due.is("30 come 100", x.caller(100, 1), NONE);
        Due.is("30 stay 0", x.caller(0, 0), NONE);
        Due.is("30 stay 31", x.caller(0, 31), NONE);
        x.act(3, 0);
        Due.is("30 first", x.caller(5, 10), 1);
        Due.is("30 second", x.caller(5, 1), 2);
        Due.is("30 third", x.caller(0, 7), 3);
        Due.is("30 forgets nothing", x.look(14), 1);
        // One: 0 to 7, then the first told of two 7 to 17, then 17 to 18.
        Due.is("31 waiting", x.line(1, 0), 2 + 12);
        Due.is("31 done", x.line(1, 1), 18);
        // Two: 0 to 7; 5 to 15 at the other; 7 to 8.
        Due.is("31 waiting of two", x.line(2, 0), 2);
        Due.is("31 done of two", x.line(2, 1), 15);
        Due.is("31 waiting of four", x.line(4, 0), 0);
        Due.is("31 s 0", x.line(0, 0), NONE);
        Due.is("31 s 5", x.line(5, 0), NONE);
        Due.is("31 what 2", x.line(1, 2), NONE);
        Due.is("31 what -1", x.line(1, -1), NONE);
        for (int n = 4; n <= 10; n++) {
            Due.is("30 more", x.caller(99, 30), n);
        }
        Due.is("30 eleventh", x.caller(0, 1), NONE);
        Due.is("31 done", x.line(1, 1), 99 + 210);
        Due.is("31 waiting", x.line(1, 0), 14 + 30 * 21);
        Due.is("30 none is then", x.caller(NONE, 0), 0);
        Due.is("31 none", x.line(1, 1), 0);
    }

    private static void worthAndFair() {
        ClayBoots x = new ClayBoots();
        Due.is("33 none", x.fair(0, 0), 0);
        Due.is("33 no first day", x.fair(0, 1), NONE);
        Due.is("32 -2", x.worth(-2), NONE);
        Due.is("32 100", x.worth(100), NONE);
        x.act(3, 0);
        Due.is("32 first", x.worth(0), 1);
        Due.is("32 forgets nothing", x.look(14), 1);
        Due.is("33 no worth", x.fair(9, 0), 0);
        Due.is("33 no worth: day 0", x.fair(9, 1), 0);
        x.worth(5);
        Due.is("33 day 0 may go along", x.fair(0, 0) * 10 + x.fair(0, 1), 50);
        Due.is("33 day 0 may not", x.fair(1, 0) * 10 + x.fair(1, 1), 51);
        x.worth(5);
        x.worth(9);
        Due.is("33 worth", x.fair(1, 0), 14);
        Due.is("33 first day", x.fair(1, 1), 1);
        Due.is("33 worth", x.fair(2, 0) * 10 + x.fair(2, 1), 90);
        Due.is("33 worth", x.fair(3, 0) * 10 + x.fair(3, 1), 93);
        Due.is("33 g -1", x.fair(-1, 0), NONE);
        Due.is("33 g 10", x.fair(10, 0), NONE);
        Due.is("33 what 2", x.fair(0, 2), NONE);
        Due.is("33 what -1", x.fair(0, -1), NONE);
        for (int n = 5; n <= 20; n++) {
            Due.is("32 more", x.worth(99), n);
        }
        Due.is("32 twenty-first", x.worth(1), NONE);
        Due.is("33 all", x.fair(0, 0), 19 + 16 * 99);
        Due.is("33 g 9", x.fair(9, 0), 2 * 99);
        Due.is("33 g 9, first", x.fair(9, 1), 4);
        Due.is("32 none is then", x.worth(NONE), 0);
        Due.is("33 none", x.fair(0, 1), NONE);
    }

    private static void offersForTheWidow() {
        ClayBoots x = new ClayBoots();
        Due.is("35 without", x.widow(0), NONE);
        Due.is("35 without", x.widow(1), NONE);
        Due.is("34 farmer -2", x.offer(-2, 0), NONE);
        Due.is("34 farmer 4", x.offer(4, 0), NONE);
        Due.is("34 -1", x.offer(0, -1), NONE);
        Due.is("34 100", x.offer(0, 100), NONE);
        x.act(3, 0);
        Due.is("34 first", x.offer(3, 0), 1);
        Due.is("34 forgets nothing", x.look(14), 1);
        Due.is("35 alone", x.widow(0), 3);
        Due.is("35 pays nobody's", x.widow(1), 0);
        x.offer(3, 50);
        Due.is("35 still alone", x.widow(0) * 100 + x.widow(1), 300);
        x.offer(2, 50);
        Due.is("35 of several the least", x.widow(0) * 100 + x.widow(1), 250);
        x.offer(3, 60);
        x.offer(3, 55);
        Due.is("35 the greatest counts", x.widow(0) * 100 + x.widow(1), 350);
        Due.is("35 what 2", x.widow(2), NONE);
        Due.is("35 what -1", x.widow(-1), NONE);
        x.offer(0, 99);
        Due.is("35 most", x.widow(0) * 100 + x.widow(1), 60);
        x.offer(1, 98);
        Due.is("34 eighth", x.offer(1, 2), 8);
        Due.is("34 ninth", x.offer(1, 2), NONE);
        Due.is("35 next", x.widow(0) * 100 + x.widow(1), 98);
        Due.is("34 none is then", x.offer(NONE, -7), 0);
        Due.is("35 none", x.widow(0), NONE);
    }

    private static void span() {
        ClayBoots x = new ClayBoots();
        Due.is("36 no doors", x.span(NONE, 0), 0);
        Due.is("36 no door", x.span(0, 0), NONE);
        x.door(false);
        Due.is("36 one door", x.span(NONE, 0), 0);
        Due.is("36 itself", x.span(0, 0), 0);
        x.door(false);
        x.door(true);
        x.door(true);
        Due.is("36 no ways", x.span(NONE, 0), NONE);
        Due.tell(x, 3, "door 0 door 1 9;door 1 door 2 4;door 0 door 2 6;");
        Due.is("36 not all", x.span(NONE, -5), NONE);
        Due.is("36 apart", x.span(0, 1), 9);
        Due.is("36 not together", x.span(0, 3), NONE);
        Due.tell(x, 3, "door 0 door 1 11;door 1 door 2 4;door 0 door 2 6;door 3 door 1 99;");
        Due.is("36 span", x.span(NONE, 99), 109);
        Due.is("36 the shortest way", x.span(0, 1), 10);
        Due.is("36 the shortest way", x.span(0, 3), 109);
        Due.is("36 and back", x.span(3, 0), 109);
        Due.is("36 a -2", x.span(-2, 0), NONE);
        Due.is("36 a 4", x.span(4, 0), NONE);
        Due.is("36 b -1", x.span(0, -1), NONE);
        Due.is("36 b 4", x.span(0, 4), NONE);
        for (int d = 4; d < 8; d++) {
            x.door(false);
        }
        Due.tell(x, 3, "door 7 door 0 5;");
        Due.is("36 the eighth door", x.span(0, 7), 5);
        Due.is("16 the eighth door", x.doorOf(0, 27), 5);
    }

    private static void laterAndFirst() {
        ClayBoots x = new ClayBoots();
        Due.is("37 -1", x.later(-1), 0);
        Due.is("37 2000000001", x.later(2000000001), 0);
        x.state(-123456789);
        Due.is("37 none", x.later(0), -123456789);
        int then = -123456789;
        for (int n = 1; n <= 40; n++) {
            then = 1664525 * then + 1013904223;
            Due.is("37 " + n, x.later(n), then);
        }
        // All of 2 to the 32 draws lead back; 2000000000 and 2000000000 and 294967296 draws are that many.
        int once = x.later(2000000000);
        x.state(once);
        int twice = x.later(2000000000);
        x.state(twice);
        Due.is("37 round", x.later(294967296), -123456789);
        x.state(0);
        Due.is("38 563 is below 564", x.first(1000, 564), 1);
        Due.is("38 and not below 563", x.first(1000, 563), 3);
        Due.is("38 v 1", x.first(4, 1), 7);
        Due.is("38 v m", x.first(2, 2), 1);
        Due.is("38 m 1", x.first(1, 1), NONE);
        Due.is("38 m 1001", x.first(1001, 5), NONE);
        Due.is("38 v 0", x.first(10, 0), NONE);
        Due.is("38 v above m", x.first(10, 11), NONE);
        Due.is("38 not drawn", x.look(9), 0);
        firstAtTheEnd(x);
    }

    /** Somewhere there are a thousand draws of 1000 without a 0: from there it is looked for. */
    private static void firstAtTheEnd(ClayBoots x) {
        int[] states = new int[1001];
        int then = 0;
        int without = 0;
        for (int n = 0; n < 1000000; n++) {
            states[n % 1001] = then;
            then = 1664525 * then + 1013904223;
            boolean zero = (then >>> 8) % 1000 == 0;
            if (zero && without >= 1000) {
                x.state(states[(n + 1001 - 998) % 1001]);
                Due.is("38 behind 999", x.first(1000, 1), 999);
                x.state(states[(n + 1001 - 999) % 1001]);
                Due.is("38 not by 999", x.first(1000, 1), NONE);
                return;
            }
            without = zero ? 0 : without + 1;
        }
        Due.is("38 such a row of draws is found", false, true);
    }

    private static void wornRow() {
        ClayBoots x = new ClayBoots();
        Due.is("40 none told", x.row(0) * 10 + x.row(1), 1);
        Due.is("39 -2", x.worn(-2), NONE);
        Due.is("39 100", x.worn(100), NONE);
        x.act(3, 0);
        Due.is("39 first", x.worn(99), 1);
        Due.is("39 forgets nothing", x.look(14), 1);
        Due.is("40 one", x.row(0) * 10 + x.row(1), 11);
        x.worn(0);
        Due.is("40 one of two", x.row(0) * 10 + x.row(1), 12);
        x.worn(0);
        Due.is("40 by places", x.row(0) * 10 + x.row(1), 13);
        x.worn(5);
        Due.is("40 two", x.row(0) * 10 + x.row(1), 22);
        x.worn(5);
        Due.is("40 four ways", x.row(0) * 10 + x.row(1), 24);
        Due.is("40 what 2", x.row(2), NONE);
        Due.is("40 what -1", x.row(-1), NONE);
        for (int n = 6; n <= 12; n++) {
            Due.is("39 more", x.worn(n), n);
        }
        Due.is("39 thirteenth", x.worn(1), NONE);
        Due.is("40 nine", x.row(0) * 10 + x.row(1), 94);
        Due.is("39 none is then", x.worn(NONE), 0);
        Due.is("40 none", x.row(1), 1);
    }

    private static void game() {
        ClayBoots x = PromisesTest.shire();
        Due.is("41 nothing there", x.game(0), NONE);
        Due.tell(x, 0, "takes heel;leaves 1000;");
        heap(x, 0, 4);
        Due.is("41 four lose", x.game(0), NONE);
        Due.is("41 four lose", x.game(1), NONE);
        heap(x, 2, 5);
        Due.is("41 one too many", x.game(0), 0);
        Due.is("41 three of four leave one and five", x.game(1), 3);
        heap(x, 0, 2);
        Due.is("41 six and five", x.game(0) * 10 + x.game(1), 1);
        heap(x, 2, 2);
        Due.is("41 six and seven", x.game(0) * 10 + x.game(1), 3);
        x.act(0, 0);
        heap(x, 0, 2);
        Due.is("41 two and seven: two has no three", x.game(0) * 10 + x.game(1), 21);
        Due.is("41 what 2", x.game(2), NONE);
        Due.is("41 what -1", x.game(-1), NONE);
    }

    private static void heap(ClayBoots x, int door, int hatfuls) {
        x.set(2, 0, hatfuls);
        x.call(0, 12, door);
    }

    private static void undo() {
        ClayBoots x = PromisesTest.shire();
        Due.tell(x, 0, "strays 564;takes 4;");
        Due.tell(x, 1, "on 0 person 0 by 0 1 to 0;");
        Due.tell(x, 2, "on 0 wet 3;on 0 frost;");
        x.call(0, 12, 2);
        x.days(1);
        Due.is("42 day", x.look(6) * 100 + x.look(3) * 10 + x.look(4), 131);
        x.act(4, 0);
        x.act(0, 0);
        x.act(1, 0);
        Due.is("42 five", x.look(14), 5);
        Due.tell(x, 0, "takes 9;");
        Due.is("42 stone", x.undo(), true);
        Due.is("42 no stone", x.look(7), 2);
        Due.is("42 sweeping", x.undo(), true);
        Due.is("42 heap is back", x.doorOf(0, 12), 2);
        Due.is("42 book is back", x.look(8), 3);
        Due.is("42 thaw", x.undo(), true);
        Due.is("42 frost is back", x.look(4), 1);
        Due.is("42 a day", x.undo(), true);
        Due.is("42 day is back", x.look(6) * 100 + x.look(3) * 10 + x.look(4), 0);
        Due.is("42 state as behind one draw", x.look(9), 1013904223);
        Due.is("42 boots are back", x.of(0, 4) * 10 + x.of(0, 3), 21);
        Due.is("42 a call", x.undo(), true);
        Due.is("42 state is back", x.look(9), 0);
        Due.is("42 land is back", x.fieldOf(2, 1), 100);
        Due.is("42 all is back", x.look(5) + x.look(8) + x.of(0, 4) + x.of(0, 3) + x.doorOf(0, 1), 0);
        Due.is("42 the law stays", x.of(0, 20), 9);
        Due.is("42 nothing is left", x.undo(), false);
        Due.is("42 none", x.look(14), 0);
    }

    private static void undoKeepsSix() {
        ClayBoots x = PromisesTest.shire();
        x.days(5);
        Due.is("42 each day is one", x.look(14), 5);
        x.undo();
        Due.is("42 one day", x.look(6), 4);
        x.days(60);
        Due.is("42 six are kept", x.look(14), 6);
        for (int i = 1; i <= 6; i++) {
            Due.is("42 undone", x.undo(), true);
            Due.is("42 day", x.look(6), 64 - i);
        }
        Due.is("42 no seventh", x.undo(), false);
        for (int i = 1; i <= 9; i++) {
            x.act(i % 2 == 1 ? 3 : 4, 0);
            Due.is("42 up to six", x.look(14), Math.min(6, i));
        }
        x.undo();
        x.undo();
        x.call(0, 10, 0);
        Due.is("42 five again", x.look(14), 5);
        x.undo();
        Due.is("42 call is gone", x.look(8), 0);
        Due.is("42 frost", x.look(4), 1);
        x.undo();
        Due.is("42 thawed", x.look(4), 0);
    }

    private static void undoForgets() {
        ClayBoots x = PromisesTest.shire();
        x.act(3, 0);
        x.clay(0, 1);
        x.garden(0, 0);
        x.wear(1, 1);
        x.caller(1, 1);
        x.worth(1);
        x.offer(1, 1);
        x.worn(1);
        x.image(true);
        Due.tell(x, 0, "");
        Due.tell(x, 3, "");
        x.goes(3, 0);
        x.would(0, 0, 0, 0);
        x.many(0, 0, 0, 1);
        x.order(0, 0, 3, 0);
        Due.is("42 kept all the while", x.look(14), 1);
        x.image(false);
        Due.is("42 the image forgets", x.look(14), 0);
    }

    private static void image() {
        ClayBoots x = PromisesTest.shire();
        Due.is("43 none", x.image(false), false);
        Due.tell(x, 0, "takes 4;leaves 1000;");
        Due.tell(x, 1, "on 0 person 0 by 0 to 0;");
        Due.tell(x, 2, "on 0 wet 3;");
        Due.tell(x, 3, "door 0 door 1 5;");
        x.call(0, 10, 0);
        tellThoughts(x, 3);
        Due.put(x, "on 5 frost;");
        Due.is("43 taken", x.image(true), true);
        Due.is("43 taking keeps what can be undone", x.look(14), 1);
        for (int again = 0; again < 2; again++) {
            Due.tell(x, 0, "");
            Due.tell(x, 1, "");
            Due.tell(x, 2, "on 0 frost;on 1 frost;");
            Due.tell(x, 3, "");
            x.state(9);
            x.days(3);
            x.field(0, 0);
            x.door(true);
            x.person(3, 1, 1);
            x.set(2, 0, 0);
            x.wear(NONE, 0);
            x.caller(NONE, 0);
            x.worth(NONE);
            x.offer(NONE, 0);
            x.worn(NONE);
            tellThoughts(x, 7);
            tellThoughts(x, 6);
            Due.put(x, "on 7 frost;");
            Due.tell(x, 0, "takes");
            Due.put(x, "on 7 frost;on 8 thaw;");
            x.act(4, 0);
            Due.is("43 gone back", x.image(false), true);
            Due.is("43 nothing to undo", x.look(14), 0);
            Due.is("43 fault() stays", x.fault(0), 1);
            Due.is("43 counts", x.look(0) * 100 + x.look(1) * 10 + x.look(2), 332);
            Due.is("43 sky, day, state", x.look(3) + x.look(4) + x.look(6) + x.look(9), 0);
            Due.is("43 moved, book", x.look(5) * 10 + x.look(8), 42);
            Due.is("43 texts", x.look(10) * 1000 + x.look(11) * 100 + x.look(12) * 10 + x.look(13), 2111);
            Due.is("43 law", x.of(0, 20) * 10 + x.of(0, 2), 45);
            Due.is("43 way", x.doorOf(0, 21), 5);
            Due.is("43 goes on", x.goes(1, 0), 8);
            Due.is("43 thoughts", thoughtsOf(x), "1 0 6 1 3 3 3 2 1 2 4");
            Due.is("43 the tape stays", x.text(2), 2);
            Due.is("43 and is told", x.look(12), 2);
        }
        x.image(false);
        x.days(1);
        Due.is("43 calls of it", x.look(8), 4);
        Due.is("43 wet of it", x.look(3), 3);
        x.image(true);
        x.days(1);
        x.image(false);
        Due.is("43 the later image", x.look(6), 1);
    }

    private static void tellThoughts(ClayBoots x, int v) {
        x.clay(2, v);
        x.garden(0, v);
        x.garden(3, v == 3 ? 0 : 1);
        x.wear(v, v);
        x.caller(v, v);
        x.worth(v);
        x.offer(v % 4, v);
        x.offer(1, v - 1);
        x.worn(v);
    }

    private static String thoughtsOf(ClayBoots x) {
        int[] all = {x.back(0), x.whose(7, 7), x.wear(0, 0) == 2 ? x.couples(6) * 6 + x.couples(5) : 0, x.wear(NONE, 0) + 1,
            x.fair(0, 0), x.line(1, 1) - 3, x.widow(0), x.widow(1), x.row(0), x.worn(2) == 2 ? x.row(1) : 0, x.mix(2)};
        StringBuilder b = new StringBuilder();
        for (int one : all) {
            b.append(b.length() == 0 ? "" : " ").append(one);
        }
        return b.toString();
    }

    private static void look() {
        ClayBoots x = PromisesTest.shire();
        x.state(-5);
        x.set(0, 0, 4);
        Due.tell(x, 0, "takes 4;leaves 500;strays 0;");
        Due.tell(x, 1, "on 2 person 0 by 0 to 0;on 3 person 0 by 0 to 0;");
        Due.tell(x, 2, "on 2 frost;");
        Due.tell(x, 3, "door 0 door 1 5;door 0 door 1 6;door 1 door 0 7;door 1 door 2 8;");
        x.days(1);
        x.call(0, 10, 2);
        x.act(1, 2);
        x.act(3, 2);
        int[] due = {3, 3, 2, 4, 1, 2, 1, 6, 2, -5, 3, 2, 1, 4, 4};
        for (int what = 0; what < due.length; what++) {
            Due.is("44 look(" + what + ")", x.look(what), due[what]);
        }
        Due.is("44 what 15", x.look(15), NONE);
        Due.is("44 what -1", x.look(-1), NONE);
    }
}
