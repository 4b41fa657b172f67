/** Each promise of the document by hand: ordinary inputs, the edges that it names, and wrong inputs. */
public final class PromisesTest {
    private static final int NONE = ClayBoots.NONE;

    private PromisesTest() {
    }

    public static void main(String[] args) {
        newObject();
        state();
        field();
        door();
        person();
        set();
        call();
        callStrays();
        callAsksFieldByField();
        act();
        days();
        daysSkyAndCalls();
        daysAtHomeOfStone();
        daysToTheLast();
        feedAndEnd();
        text();
        fault();
        of();
        fieldOf();
        doorOf();
        tells();
        book();
        bookIsFull();
        Due.end();
    }

    /** Fields 50 and 7 hatfuls of clay 2, 100 of clay 5; the middle door of three is of stone; two people. */
    static ClayBoots shire() {
        ClayBoots x = new ClayBoots();
        x.field(2, 50);
        x.field(2, 7);
        x.field(5, 100);
        x.door(false);
        x.door(true);
        x.door(false);
        x.person(0, 3, 5);
        x.person(2, 1, 9);
        return x;
    }

    private static void newObject() {
        ClayBoots x = new ClayBoots();
        Due.is("1 NONE", ClayBoots.NONE, -1);
        for (int what = 0; what <= 14; what++) {
            Due.is("1 look(" + what + ")", x.look(what), 0);
        }
        Due.is("1 mix", x.mix(NONE), 1);
        Due.is("1 back", x.back(0), 0);
        Due.is("1 undo", x.undo(), false);
        Due.is("1 image", x.image(false), false);
        Due.is("1 days", x.days(60), 0);
        Due.is("1 day", x.look(6), 60);
    }

    private static void state() {
        ClayBoots x = shire();
        Due.is("2 first", x.state(Integer.MIN_VALUE), 0);
        Due.is("2 second", x.state(77), Integer.MIN_VALUE);
        Due.is("2 third", x.look(9), 77);
        x.call(0, 10, 0);
        Due.is("2 call kept", x.look(14), 1);
        Due.is("2 was", x.state(77), 77);
        Due.is("2 forgets", x.look(14), 0);
        Due.is("2 nothing to undo", x.undo(), false);
    }

    private static void field() {
        ClayBoots x = new ClayBoots();
        Due.is("3 clay -1", x.field(-1, 5), NONE);
        Due.is("3 clay 6", x.field(6, 5), NONE);
        Due.is("3 land -1", x.field(0, -1), NONE);
        Due.is("3 land 10000", x.field(0, 10000), NONE);
        Due.is("3 least", x.field(0, 0), 0);
        Due.is("3 most", x.field(5, 9999), 1);
        Due.is("3 clay", x.fieldOf(1, 0), 5);
        Due.is("3 land", x.fieldOf(1, 1), 9999);
        x.act(3, 0);
        Due.is("3 one that can't be forgets nothing", x.field(6, 0) + 10 * x.look(14), 9);
        for (int f = 2; f < 10; f++) {
            Due.is("3 field", x.field(1, f), f);
        }
        Due.is("3 forgets", x.look(14), 0);
        x.act(4, 0);
        Due.is("3 eleventh", x.field(1, 1), NONE);
        Due.is("3 eleventh forgets nothing", x.look(14), 1);
        Due.is("3 count", x.look(0), 10);
    }

    private static void door() {
        ClayBoots x = new ClayBoots();
        for (int d = 0; d < 8; d++) {
            x.act(3, 0);
            Due.is("4 door", x.door(d % 3 == 0), d);
            Due.is("4 forgets", x.look(14), 0);
            x.act(4, 0);
        }
        Due.is("4 ninth", x.door(true), NONE);
        Due.is("4 ninth forgets nothing", x.look(14), 1);
        Due.is("4 count", x.look(1), 8);
        Due.is("4 stones", x.look(7), 1 + 8 + 64);
    }

    private static void person() {
        ClayBoots x = new ClayBoots();
        Due.is("5 no home", x.person(0, 1, 1), NONE);
        x.door(false);
        Due.is("5 home -1", x.person(-1, 1, 1), NONE);
        Due.is("5 home 1", x.person(1, 1, 1), NONE);
        Due.is("5 size 0", x.person(0, 0, 1), NONE);
        Due.is("5 size 10", x.person(0, 10, 1), NONE);
        Due.is("5 heel -1", x.person(0, 1, -1), NONE);
        Due.is("5 heel 10", x.person(0, 1, 10), NONE);
        for (int p = 0; p < 12; p++) {
            x.act(p % 2 == 0 ? 3 : 4, 0);
            Due.is("5 person", x.person(0, p % 9 + 1, p % 10), p);
            Due.is("5 forgets", x.look(14), 0);
        }
        Due.is("5 thirteenth", x.person(0, 1, 1), NONE);
        Due.is("5 size 9", x.of(8, 1), 9);
        Due.is("5 heel 9", x.of(9, 2), 9);
        Due.is("5 count", x.look(2), 12);
    }

    private static void set() {
        ClayBoots x = shire();
        Due.is("6 wet 9", x.set(0, -55, 9), true);
        Due.is("6 wet", x.look(3), 9);
        Due.is("6 wet 10", x.set(0, 0, 10), false);
        Due.is("6 wet -1", x.set(0, 0, -1), false);
        Due.is("6 land 9999", x.set(1, 2, 9999), true);
        Due.is("6 land", x.fieldOf(2, 1), 9999);
        Due.is("6 land 0", x.set(1, 2, 0), true);
        Due.is("6 land 10000", x.set(1, 2, 10000), false);
        Due.is("6 land -1", x.set(1, 2, -1), false);
        Due.is("6 field 3", x.set(1, 3, 1), false);
        Due.is("6 field -1", x.set(1, -1, 1), false);
        Due.is("6 heel 0", x.set(2, 1, 0), true);
        Due.is("6 heel", x.of(1, 2), 0);
        Due.is("6 heel 10", x.set(2, 1, 10), false);
        Due.is("6 heel -1", x.set(2, 1, -1), false);
        Due.is("6 person 2", x.set(2, 2, 1), false);
        Due.is("6 person -1", x.set(2, -1, 1), false);
        Due.is("6 what 3", x.set(3, 0, 1), false);
        Due.is("6 what -1", x.set(-1, 0, 1), false);
        x.act(3, 0);
        x.set(0, 0, 10);
        Due.is("6 a false one forgets nothing", x.look(14), 1);
        x.set(0, 0, 9);
        Due.is("6 forgets", x.look(14), 0);
    }

    private static void call() {
        ClayBoots x = shire();
        int[] rows = {-10, 0, 1, 9, 13, 20, 99, 103, 130, 200, 1003, 2000000, 10000000, Integer.MIN_VALUE, Integer.MAX_VALUE};
        for (int row : rows) {
            Due.is("7 row " + row, x.call(0, row, 0), NONE);
        }
        Due.is("7 person 2", x.call(2, 10, 0), NONE);
        Due.is("7 person -1", x.call(-1, 10, 0), NONE);
        Due.is("7 door 3", x.call(0, 10, 3), NONE);
        Due.is("7 door -1", x.call(0, 10, -1), NONE);
        Due.is("7 nothing kept", x.look(14) + x.look(8), 0);
        Due.is("7 six fields", x.call(0, 1222222, 0), 9);
        Due.is("7 land", x.fieldOf(2, 1), 82);
        Due.is("7 boots", x.of(0, 12), 9);
        Due.is("7 heap", x.doorOf(0, 12), 9);
        Due.is("7 moved", x.look(5), 9);
        Due.is("7 called", x.of(0, 3), 1);
        Due.is("7 no draw", x.look(9), 0);
        Due.is("7 stone takes none", x.call(0, 1012, 1), 0);
        Due.is("7 boots then", x.of(0, 4), 18);
        Due.is("7 moved then", x.look(5), 9);
        x.act(3, 0);
        Due.is("7 frost leaves all on boots", x.call(0, 11, 0), 0);
        Due.is("7 no more than land", x.fieldOf(1, 1), 1);
        Due.is("7 frost boots", x.of(0, 4), 21);
        x.call(0, 11, 0);
        Due.is("7 land is out", x.fieldOf(1, 1) + 10 * x.of(0, 4), 220);
        x.call(0, 1222, 0);
        Due.is("7 room is out", x.of(0, 4), 30);
        Due.is("7 room is out, land", x.fieldOf(2, 1), 82 - 3 - 8);
        Due.is("7 undo kept", x.look(14), 6);
    }

    private static void callStrays() {
        ClayBoots x = shire();
        Due.tell(x, 0, "strays 564;leaves 1000;");
        Due.is("7 strays: 563 is drawn", x.call(0, 10, 2), 3);
        Due.is("7 strays to the first behind the last", x.doorOf(0, 10), 3);
        Due.is("7 strays draws", x.look(9), 1013904223);
        Due.is("7 strays book", x.book(0, 3), 0);
        x.state(0);
        Due.tell(x, 0, "strays 563;leaves 1000;");
        Due.is("7 563 is not below 563", x.call(0, 10, 2), 3);
        Due.is("7 wipes here", x.doorOf(2, 10), 3);
        Due.is("7 draws all the same", x.look(9), 1013904223);
        x.state(0);
        Due.tell(x, 0, "strays 1000 when stone=1 and clay=0 and land=0;leaves 1000 when stone=0;");
        Due.is("7 strays hears the stone", x.call(0, 10, 1), 3);
        Due.is("7 strays from stone", x.doorOf(2, 10), 6);
        x.state(0);
        Due.tell(x, 0, "strays 0-5;");
        x.call(0, 10, 0);
        Due.is("7 no draw by nothing", x.look(9), 0);
        x.act(3, 0);
        Due.tell(x, 0, "strays 1000;");
        x.call(0, 10, 0);
        Due.is("7 strays in frost, too", x.book(x.look(8) - 1, 3), 1);
    }

    private static void callAsksFieldByField() {
        ClayBoots x = shire();
        Due.tell(x, 0, "takes 10-load when clay=2;takes land/10;leaves 1000-load*100;");
        // 10 of field 0, none of field 1 (load 10), 10 of field 2: 20 are on boots; a load of 20 leaves none.
        Due.is("7 leaves none", x.call(0, 1012, 0), 0);
        Due.is("7 first", x.of(0, 10), 10);
        Due.is("7 second", x.of(0, 11), 0);
        Due.is("7 third", x.of(0, 12), 10);
        Due.tell(x, 0, "takes 0;leaves 500 when load>15;leaves 1000 when load=15 and called=1 and clay=5 and land=90;leaves 0;");
        // Field 0: 5 of 10; then the load is 15, and all of field 2 comes.
        Due.is("7 load goes down", x.call(0, 10, 2), 15);
        Due.is("7 heap 0", x.doorOf(2, 10), 5);
        Due.is("7 heap 2", x.doorOf(2, 12), 10);
        Due.is("7 left", x.of(0, 4), 5);
        Due.is("7 called", x.of(0, 3), 2);
        Due.tell(x, 0, "takes 500;leaves 5000;");
        Due.is("7 takes at most the room", x.call(1, 10, 0), 10);
        Due.tell(x, 0, "takes 0-9;leaves 0-9;");
        Due.is("7 takes none at least", x.call(1, 10, 0), 0);
        Due.is("7 none taken", x.of(1, 4), 0);
        Due.tell(x, 0, "takes 1;leaves 999;");
        Due.is("7 downwards", x.call(1, 10, 0), 0);
        Due.is("7 downwards, on boots", x.of(1, 4), 1);
    }

    private static void act() {
        ClayBoots x = shire();
        Due.is("8 sweep none such", x.act(0, 3), false);
        Due.is("8 sweep -1", x.act(0, -1), false);
        Due.is("8 stone none such", x.act(1, 3), false);
        Due.is("8 no stone none such", x.act(2, -1), false);
        Due.is("8 what 5", x.act(5, 0), false);
        Due.is("8 what -1", x.act(-1, 0), false);
        Due.is("8 stone is so", x.act(1, 1), false);
        Due.is("8 no stone is so", x.act(2, 0), false);
        Due.is("8 thaw is so", x.act(4, 0), false);
        Due.is("8 nothing kept", x.look(14), 0);
        Due.is("8 stone", x.act(1, 0), true);
        Due.is("8 stones", x.look(7), 3);
        Due.is("8 no stone", x.act(2, 1), true);
        Due.is("8 stones then", x.look(7), 1);
        Due.is("8 freeze, who not asked", x.act(3, -77), true);
        Due.is("8 freeze is so", x.act(3, 0), false);
        Due.is("8 frost", x.look(4), 1);
        Due.is("8 thaw", x.act(4, 99), true);
        Due.is("8 no frost", x.look(4), 0);
        Due.is("8 sweep nothing", x.act(0, 2), true);
        Due.is("8 book of nothing", x.book(0, 1) * 100 + x.book(0, 2) * 10 + x.book(0, 3), 320);
        Due.is("8 kept", x.look(14), 5);
        Due.tell(x, 0, "takes 10;leaves 1000;");
        x.call(0, 1012, 2);
        x.set(1, 0, 9995);
        Due.is("8 heap", x.doorOf(2, 1), 27);
        Due.is("8 sweep", x.act(0, 2), true);
        Due.is("8 land 9999 at most", x.fieldOf(0, 1), 9999);
        Due.is("8 land back", x.fieldOf(1, 1), 7);
        Due.is("8 heap is gone", x.doorOf(2, 1), 0);
        Due.is("8 book", x.book(3, 1) * 100 + x.book(3, 2), 302);
        Due.is("8 book, how much", x.book(3, 3), 27);
        Due.is("8 moved stays", x.look(5), 27);
    }

    private static void days() {
        ClayBoots x = shire();
        Due.is("9 none", x.days(0), NONE);
        Due.is("9 -1", x.days(-1), NONE);
        Due.is("9 61", x.days(61), NONE);
        Due.is("9 nothing done", x.look(6) + x.look(14), 0);
        Due.tell(x, 0, "takes 7;leaves 0;");
        x.call(0, 102, 0);
        x.call(1, 10, 0);
        Due.is("9 a day", x.days(1), 0);
        Due.is("9 half, downwards", x.of(0, 10) * 100 + x.of(0, 12), 404);
        Due.is("9 heap at home", x.doorOf(0, 10) * 100 + x.doorOf(0, 12), 303);
        Due.is("9 other home", x.doorOf(2, 10), 3);
        Due.is("9 not moved", x.look(5), 0);
        Due.is("9 book", x.book(2, 1) * 100 + x.book(2, 2) * 10 + x.book(2, 3), 206);
        Due.is("9 book of the other", x.book(3, 1) * 100 + x.book(3, 2) * 10 + x.book(3, 3), 213);
        Due.is("9 book, its day", x.book(3, 0), 0);
        x.act(3, 0);
        x.days(2);
        Due.is("9 frost holds", x.of(0, 4), 8);
        Due.is("9 day", x.look(6), 3);
        x.act(4, 0);
        x.days(60);
        Due.is("9 the last one stays on", x.of(0, 4) * 10 + x.of(1, 4), 21);
        Due.is("9 day then", x.look(6), 63);
        Due.is("9 no line for nothing", x.look(8), 4 + 4);
    }

    private static void daysSkyAndCalls() {
        ClayBoots x = shire();
        Due.tell(x, 1, "on 1 person 0 by 0 2 to 0;on 0 person 1 by 0 to 0;on 1 person 1 by 1 to 2;on 70 person 0 by 0 to 0;");
        Due.tell(x, 2, "on 1 wet 4;on 1 wet 2;on 2 frost;on 3 thaw;on 4 frost;on 4 thaw;");
        Due.is("9 one call", x.days(1), 1);
        Due.is("9 wet not yet", x.look(3), 0);
        Due.is("9 two calls", x.days(1), 2);
        Due.is("9 the later line holds", x.look(3), 2);
        Due.is("9 takes by wet", x.fieldOf(2, 1), 95);
        Due.is("9 third", x.days(1) * 10 + x.look(4), 1);
        Due.is("9 fourth", x.days(1) * 10 + x.look(4), 0);
        Due.is("9 fifth", x.days(1) * 10 + x.look(4), 0);
        Due.is("9 the rest", x.days(60), 0);
        Due.is("9 day", x.look(6), 65);
        Due.is("9 the one on 70", x.days(6), 1);
        Due.is("9 frost in the row of lines", x.look(4), 0);
        ClayBoots y = shire();
        Due.tell(y, 1, "on 0 person 0 by 0 to 0;on 1 person 0 by 0 to 0;on 2 person 0 by 0 to 0;");
        Due.is("9 calls of several days", y.days(2), 2);
    }

    private static void daysAtHomeOfStone() {
        ClayBoots x = shire();
        x.act(1, 0);
        Due.tell(x, 0, "takes 9;leaves 0;");
        x.call(0, 102, 2);
        x.set(1, 0, 9998);
        Due.is("9 stone home", x.days(1), 0);
        Due.is("9 to land, 9999 at most", x.fieldOf(0, 1), 9999);
        Due.is("9 to land", x.fieldOf(2, 1), 95);
        Due.is("9 boots", x.of(0, 4), 10);
        Due.is("9 no heap", x.doorOf(0, 1), 0);
        Due.is("9 all that fell", x.book(1, 3), 8);
    }

    private static void daysToTheLast() {
        ClayBoots x = new ClayBoots();
        for (int i = 0; i < 166; i++) {
            x.days(60);
        }
        Due.is("9 day", x.look(6), 9960);
        Due.is("9 beyond", x.days(40), NONE);
        Due.is("9 not gone", x.look(6), 9960);
        Due.is("9 up to the last", x.days(39), 0);
        Due.is("9 last", x.look(6), 9999);
        Due.is("9 no more", x.days(1), NONE);
    }

    private static void feedAndEnd() {
        ClayBoots x = shire();
        Due.is("11 of none", x.end(0), true);
        Due.is("11 more than none", x.end(1), false);
        for (int i = 1; i <= 20; i++) {
            Due.is("10 feed", x.feed(-1, 0, 1, 2, 3), 20 * i);
        }
        Due.is("10 full", x.feed(0, 0, 0, 0, 0), NONE);
        Due.is("11 381", x.end(381), true);
        Due.is("10 would be 401", x.feed(0, 0, 0, 0, 0), NONE);
        Due.is("11 382", x.end(382), false);
        Due.is("11 -1", x.end(-1), false);
        Due.is("11 380", x.end(380), true);
        Due.is("10 400 again", x.feed(0, 0, 0, 0, 0), 400);
        x.end(0);
        x.act(3, 0);
        // "take", "s 7 ", "when", " 1=1", ";   "
        Due.is("10 bytes", x.feed(0x74616b65, 0x73203720, 0x7768656e, 0x20313d31, 0x3b202020), 20);
        Due.is("10 text", x.text(0), 1);
        Due.is("10 the highest first", x.of(0, 20), 7);
        Due.is("10 forgets nothing", x.look(14), 1);
        x.end(0);
        Due.is("11 forgets nothing", x.look(14), 1);
    }

    private static void text() {
        ClayBoots x = shire();
        Due.is("12 no lines", Due.tell(x, 0, ""), 0);
        Due.is("12 blanks", Due.tell(x, 1, " \n  \n"), 0);
        Due.is("12 law", Due.tell(x, 0, "takes\n5;strays 7when 1<2;"), 2);
        Due.is("12 calls", Due.tell(x, 1, "on 999 person 1 by 0 1 2 0 1 2 to 2;"), 1);
        Due.is("12 sky", Due.tell(x, 2, "on 0 wet 0;on 999 wet 9;on 5 frost;on 5 thaw;"), 4);
        Due.is("12 ways", Due.tell(x, 3, "door 0 door 1 1;door 2 door 0 99;"), 2);
        Due.is("12 lines", x.look(10) * 1000 + x.look(11) * 100 + x.look(12) * 10 + x.look(13), 2142);
        Due.is("12 with a fault", Due.tell(x, 0, "takes 6;takes"), NONE);
        Due.is("12 it stays", x.look(10) * 100 + x.of(0, 20), 205);
        Due.is("12 the tape is empty", x.feed(0, 0, 0, 0, 0), 20);
        x.end(0);
        Due.is("12 no such text", x.text(4), NONE);
        Due.is("12 no such text", x.text(-1), NONE);
        x.act(3, 0);
        Due.tell(x, 0, "takes 8;");
        Due.tell(x, 3, "");
        Due.tell(x, 1, "on");
        Due.tell(x, 2, "on");
        x.text(4);
        Due.is("12 law, ways and faults forget nothing", x.look(14), 1);
        Due.is("12 ways are gone", x.doorOf(0, 21), NONE);
        Due.tell(x, 1, "");
        Due.is("12 calls forget", x.look(14), 0);
        x.act(4, 0);
        Due.tell(x, 2, "");
        Due.is("12 sky forgets", x.look(14), 0);
        Due.is("12 lines", x.look(10) * 1000 + x.look(11) * 100 + x.look(12) * 10 + x.look(13), 1000);
    }

    private static void fault() {
        ClayBoots x = shire();
        Due.is("13 without a text", x.fault(0) * 10 + x.fault(1), -1);
        Due.is("13 what 2", x.fault(2), NONE);
        Due.is("13 what -1", x.fault(-1), NONE);
        Due.tell(x, 0, "takes 1/0;");
        Due.is("13 kind", x.fault(0), 2);
        Due.is("13 place", x.fault(1), 8);
        x.text(7);
        Due.is("13 no such text", x.fault(0) * 10 + x.fault(1), -1);
        Due.tell(x, 0, "takes");
        Due.tell(x, 0, "takes 1;");
        Due.is("13 none", x.fault(0) * 10 + x.fault(1), -1);
        Due.tell(x, 0, "takes");
        x.image(true);
        x.image(false);
        Due.is("13 the image leaves it", x.fault(0) * 10 + x.fault(1), 15);
    }

    private static void of() {
        ClayBoots x = shire();
        x.call(1, 12, 0);
        x.set(0, 0, 6);
        Due.is("14 home", x.of(1, 0), 2);
        Due.is("14 size", x.of(1, 1), 1);
        Due.is("14 heel", x.of(1, 2), 9);
        Due.is("14 called", x.of(1, 3), 1);
        Due.is("14 load", x.of(1, 4), 1);
        Due.is("14 what 5", x.of(1, 5), NONE);
        Due.is("14 what 9", x.of(1, 9), NONE);
        Due.is("14 boots", x.of(1, 12), 1);
        Due.is("14 boots 0", x.of(1, 10), 0);
        Due.is("14 boots of none", x.of(1, 13), NONE);
        Due.is("14 takes untold: size and wet", x.of(0, 20) * 100 + x.of(1, 22), 907);
        Due.is("14 takes of none", x.of(1, 23), NONE);
        Due.is("14 what 30", x.of(1, 30), NONE);
        Due.is("14 what -1", x.of(1, -1), NONE);
        Due.is("14 person 2", x.of(2, 0), NONE);
        Due.is("14 person -1", x.of(-1, 0), NONE);
        Due.tell(x, 0, "takes 100 when size=3;takes 0-1 when land=7;takes land+stone when clay=2 and load=1;");
        Due.is("14 takes 99 at most", x.of(0, 20), 99);
        Due.is("14 takes 0 at least", x.of(1, 21), 0);
        Due.is("14 takes hears land, clay, load", x.of(1, 20), 50);
        Due.is("14 no line fits", x.of(1, 22), 7);
        ClayBoots y = new ClayBoots();
        for (int f = 0; f < 10; f++) {
            y.field(0, 100 + f);
        }
        y.door(false);
        y.person(0, 9, 0);
        y.call(0, 19, 0);
        Due.is("14 tenth field", y.of(0, 19) * 100 + y.of(0, 29), 509);
    }

    private static void fieldOf() {
        ClayBoots x = shire();
        Due.is("15 clay", x.fieldOf(2, 0), 5);
        Due.is("15 land", x.fieldOf(1, 1), 7);
        Due.is("15 nobody", x.fieldOf(0, 2), NONE);
        Due.is("15 what 3", x.fieldOf(0, 3), NONE - 1);
        Due.is("15 what -1", x.fieldOf(0, -1), NONE - 1);
        Due.is("15 field 3", x.fieldOf(3, 0), NONE - 1);
        Due.is("15 field -1", x.fieldOf(-1, 0), NONE - 1);
        Due.tell(x, 0, "takes 2;leaves 1000;");
        x.call(0, 10, 2);
        Due.is("15 holder", x.fieldOf(0, 2), 2);
        x.call(0, 10, 0);
        Due.is("15 of several the least", x.fieldOf(0, 2), 0);
        x.call(0, 10, 2);
        Due.is("15 holder with most", x.fieldOf(0, 2), 2);
    }

    private static void doorOf() {
        ClayBoots x = shire();
        Due.tell(x, 0, "takes 2;leaves 1000;");
        x.call(0, 102, 2);
        x.call(0, 11, 0);
        Due.tell(x, 3, "door 0 door 1 9;door 1 door 0 4;door 0 door 1 7;door 1 door 2 3;");
        Due.is("16 stone", x.doorOf(1, 0) * 10 + x.doorOf(0, 0), 10);
        Due.is("16 acres", x.doorOf(2, 1) * 10 + x.doorOf(0, 1), 42);
        Due.is("16 county", x.doorOf(2, 2) * 10 + x.doorOf(0, 2), 52);
        Due.is("16 county of none", x.doorOf(1, 2), 0);
        Due.is("16 what 3", x.doorOf(0, 3), NONE - 1);
        Due.is("16 heap", x.doorOf(2, 12) * 10 + x.doorOf(2, 11), 20);
        Due.is("16 heap of none", x.doorOf(2, 13), NONE - 1);
        Due.is("16 the shortest way", x.doorOf(0, 21), 4);
        Due.is("16 either way", x.doorOf(1, 20), 4);
        Due.is("16 no way", x.doorOf(0, 22), NONE);
        Due.is("16 itself", x.doorOf(0, 20), NONE);
        Due.is("16 no such door", x.doorOf(0, 23), NONE - 1);
        Due.is("16 what 28", x.doorOf(0, 28), NONE - 1);
        Due.is("16 what -1", x.doorOf(0, -1), NONE - 1);
        Due.is("16 door 3", x.doorOf(3, 0), NONE - 1);
        Due.is("16 door -1", x.doorOf(-1, 0), NONE - 1);
    }

    private static void tells() {
        ClayBoots x = shire();
        Due.is("17 leaves untold", x.tells(0, 0, 0, 0), 500);
        Due.is("17 strays untold", x.tells(0, 0, 0, 1), 0);
        Due.tell(x, 0, "leaves 100*clay+stone when heel=5;leaves 1001;strays land+clay+heel*100+stone when size=3;strays 0-3;");
        Due.is("17 leaves", x.tells(0, 2, 1, 0), 501);
        Due.is("17 leaves without stone", x.tells(0, 1, 0, 0), 200);
        Due.is("17 leaves 1000 at most", x.tells(1, 1, 0, 0), 1000);
        Due.is("17 strays hears no field", x.tells(0, 2, 1, 1), 501);
        Due.is("17 strays, field not asked", x.tells(0, -9, 0, 1), 500);
        Due.is("17 strays 0 at least", x.tells(1, 0, 0, 1), 0);
        Due.is("17 field 3", x.tells(0, 3, 0, 0), NONE);
        Due.is("17 field -1", x.tells(0, -1, 0, 0), NONE);
        Due.is("17 door 3", x.tells(0, 0, 3, 0), NONE);
        Due.is("17 door -1", x.tells(0, 0, -1, 1), NONE);
        Due.is("17 person 2", x.tells(2, 0, 0, 1), NONE);
        Due.is("17 person -1", x.tells(-1, 0, 0, 0), NONE);
        Due.is("17 what 2", x.tells(0, 0, 0, 2), NONE);
        Due.is("17 what -1", x.tells(0, 0, 0, -1), NONE);
    }

    private static void book() {
        ClayBoots x = shire();
        Due.is("18 none", x.book(0, 0), NONE);
        x.days(7);
        x.call(0, 10, 2);
        x.call(1, 10, 1);
        x.act(0, 2);
        int[][] due = {{7, 0, 0, 2}, {7, 1, 0, 1}, {7, 0, 1, 1}, {7, 3, 2, 1}};
        for (int i = 0; i < due.length; i++) {
            for (int what = 0; what < 4; what++) {
                Due.is("18 line " + i, x.book(i, what), due[i][what]);
            }
        }
        Due.is("18 lines", x.look(8), 4);
        Due.is("18 line 4", x.book(4, 0), NONE);
        Due.is("18 line -1", x.book(-1, 0), NONE);
        Due.is("18 what 4", x.book(0, 4), NONE);
        Due.is("18 what -1", x.book(0, -1), NONE);
    }

    private static void bookIsFull() {
        ClayBoots x = shire();
        x.act(0, 0);
        for (int i = 0; i < 80; i++) {
            x.set(1, 0, 50);
            x.call(0, 10, 0);
        }
        Due.is("18 150 lines", x.look(8), 150);
        Due.is("18 the last one", x.book(149, 1), 0);
        Due.is("18 no more", x.book(150, 0), NONE);
        x.act(0, 0);
        Due.is("18 no more by a sweeping", x.look(8), 150);
        Due.is("18 sweeping is done all the same", x.doorOf(0, 1), 0);
        x.undo();
        Due.is("18 undone, still full", x.look(8), 150);
    }
}
