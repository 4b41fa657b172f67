import java.util.function.Supplier;
import java.util.function.ToLongFunction;

/** The edges that Terms 4 and promises 42 to 44 name of what is undone, the image and look(); each remark says which. */
public final class PastEdgesTest {
    private static final int NONE = ClayBoots.NONE;
    private static final int LEAST = Integer.MIN_VALUE;
    private static final int MOST = Integer.MAX_VALUE;

    private PastEdgesTest() {
    }

    public static void main(String[] args) {
        nothingToUndo();
        whatIsUndone();
        eachDayIsUndone();
        stateAndBookGoBack();
        sixAreKept();
        sixOfDays();
        notUndoneYet();
        whatForgets();
        whatDoesNotForget();
        refusedForgetsNothing();
        lawAndWaysStay();
        noImage();
        imageGoesBack();
        imageMoreThanOnce();
        imageLeavesTapeAndFault();
        imageForgets();
        imageTakenAgain();
        imageOfNothing();
        imageOfAFullShire();
        look();
        lookAtSets();
        lookAtWhatCanBeUndone();
        Due.end();
    }

    private static long one(boolean b) {
        return b ? 1 : 0;
    }

    /** Promise 42: "UNDO: true; false if there is nothing." */
    private static void nothingToUndo() {
        Due.is("42 nothing was done", new ClayBoots().undo(), false);
        Supplier<ClayBoots> told = () -> {
            ClayBoots x = Shires.rich();
            x.state(5);
            return x;
        };
        Alike.refused("42 nothing is left", told, x -> one(x.undo()), 0);
        ClayBoots x = new ClayBoots();
        x.act(3, 0);
        Due.is("42 something", x.undo(), true);
        Due.is("42 nothing any more", x.undo(), false);
        Due.is("42 undone once alone", x.look(4), 0);
    }

    private static void undone(String what, ToLongFunction<ClayBoots> done) {
        ClayBoots x = Shires.rich();
        done.applyAsLong(x);
        Due.is("42 " + what + " is kept", x.look(14), 5);
        Due.is("42 " + what + " is undone", x.undo(), true);
        Alike.unchanged("42 " + what + " undone", Shires::rich, y -> done.applyAsLong(y) + one(y.undo()));
    }

    /** Terms 4: "UNDO: the latest DAY, CALL, SWEEPING, STONE, FREEZING not undone yet goes back (STATE, THE BOOK, too)" */
    private static void whatIsUndone() {
        undone("a day", x -> x.days(1));
        undone("a call", x -> x.call(0, 1023, 0));
        undone("a call that strays", x -> x.call(2, 13, 1));
        undone("a call that brings nothing", x -> x.call(1, 11, 1));
        undone("a sweeping", x -> one(x.act(0, 0)));
        undone("a sweeping of nothing", x -> one(x.act(0, 2)));
        undone("stone", x -> one(x.act(1, 0)));
        undone("no stone", x -> one(x.act(2, 1)));
        undone("a freezing", x -> one(x.act(3, 0)));
        Supplier<ClayBoots> frozen = () -> {
            ClayBoots x = Shires.rich();
            x.act(3, 0);
            return x;
        };
        Alike.unchanged("42 a thaw undone", frozen, x -> one(x.act(4, 0)) + one(x.undo()));
    }

    /** Terms 4: "the latest DAY" Each day of several goes back by itself. */
    private static void eachDayIsUndone() {
        Alike.unchanged("42 two days undone", Shires::rich, x -> x.days(2) + one(x.undo()) + one(x.undo()));
        Supplier<ClayBoots> once = () -> {
            ClayBoots x = Shires.rich();
            x.days(1);
            return x;
        };
        Alike.unchanged("42 one of two days undone", once, x -> x.days(1) + one(x.undo()));
        ClayBoots x = new ClayBoots();
        x.days(3);
        Due.is("42 three days", x.look(14), 3);
        x.undo();
        Due.is("42 the latest of three", x.look(6), 2);
    }

    /** Terms 4: "goes back (STATE, THE BOOK, too)" */
    private static void stateAndBookGoBack() {
        ClayBoots x = Shires.bare(90, "takes 8;leaves 500;strays 1000;");
        x.state(MOST);
        x.call(0, 10, 0);
        x.call(0, 10, 0);
        Due.is("42 four lines", x.look(8), 4);
        int once = x.later(0);
        x.undo();
        Due.is("42 the draw goes back", x.look(9) == once, false);
        Due.is("42 two lines", x.look(8), 2);
        Due.is("42 no third", x.book(2, 0), NONE);
        x.undo();
        Due.is("42 the state goes back", x.look(9), MOST);
        Due.is("42 no lines", x.look(8), 0);
        x.call(0, 10, 1);
        Due.is("42 the book is written from there", x.book(0, 3), 0);
    }

    /** Terms 4: "6 are kept;" */
    private static void sixAreKept() {
        for (int done = 0; done <= 14; done++) {
            ClayBoots x = Shires.bare(90, "takes 1;leaves 1000;");
            for (int i = 0; i < done; i++) {
                x.call(0, 10, 0);
                Due.is("42 so many are kept", x.look(14), Math.min(6, i + 1));
            }
            int kept = Math.min(6, done);
            for (int i = 1; i <= kept; i++) {
                Due.is("42 undone of " + done, x.undo(), true);
                Due.is("42 one less of " + done, x.look(14), kept - i);
                Due.is("42 calls left of " + done, x.of(0, 3), done - i);
            }
            Due.is("42 no more of " + done, x.undo(), false);
            Due.is("42 the rest stays of " + done, x.of(0, 3), done - kept);
        }
    }

    /** Terms 4: "6 are kept;" Of days that go by at once. */
    private static void sixOfDays() {
        for (int n : new int[] {1, 5, 6, 7, 60}) {
            ClayBoots x = new ClayBoots();
            x.act(3, 0);
            x.act(4, 0);
            x.days(n);
            Due.is("42 kept of two and " + n, x.look(14), Math.min(6, n + 2));
            for (int i = 1; i <= Math.min(6, n); i++) {
                x.undo();
                Due.is("42 a day less of " + n, x.look(6), n - i);
            }
            x.undo();
            Due.is("42 the thaw is kept behind " + n + " days", x.look(4), n <= 5 ? 1 : 0);
        }
    }

    /** Terms 4: "not undone yet" */
    private static void notUndoneYet() {
        ClayBoots x = Shires.of(1, 3, 1);
        x.act(1, 0);
        x.act(1, 1);
        x.act(1, 2);
        x.undo();
        x.undo();
        x.act(3, 0);
        Due.is("42 two: the first and the latest", x.look(14), 2);
        x.undo();
        Due.is("42 the latest", x.look(4), 0);
        Due.is("42 the first is there still", x.look(7), 1);
        x.undo();
        Due.is("42 the first", x.look(7), 0);
        Due.is("42 what was undone does not come again", x.undo(), false);
        ClayBoots y = Shires.of(1, 1, 1);
        for (int i = 0; i < 100; i++) {
            y.act(3, 0);
            y.act(0, 0);
            Due.is("42 two and two back", y.undo() && y.undo(), true);
        }
        Due.is("42 nothing is left of it", y.look(14) + y.look(4) + y.look(8), 0);
    }

    private static void forgets(String what, ToLongFunction<ClayBoots> told) {
        ClayBoots x = Shires.rich();
        Due.is("42 four ahead of " + what, x.look(14), 4);
        told.applyAsLong(x);
        Due.is("42 " + what + " forgets them", x.look(14), 0);
        Due.is("42 nothing to undo behind " + what, x.undo(), false);
    }

    /** Terms 4: "whatever else is told but THE LAW, WAYS and what is told for thought (CLAYS, BACK, WEARS, LINE, FAIR, WIDOW, WEAR) (the taking of THE IMAGE does not) forgets them." */
    private static void whatForgets() {
        forgets("a state", x -> x.state(1));
        forgets("the same state", x -> x.state(x.look(9)));
        forgets("a field", x -> x.field(0, 0));
        forgets("a door", x -> x.door(false));
        forgets("a person", x -> x.person(0, 1, 0));
        forgets("wet", x -> one(x.set(0, 0, 4)));
        forgets("land", x -> one(x.set(1, 0, 1)));
        forgets("a heel", x -> one(x.set(2, 0, 5)));
        forgets("calls", x -> one(x.end(0)) + Due.tell(x, 1, "on 9 person 0 by 0 to 0;"));
        forgets("no calls", x -> one(x.end(0)) + x.text(1));
        forgets("a sky", x -> x.text(2));
        forgets("no sky", x -> one(x.end(0)) + x.text(2));
        forgets("the image", x -> one(x.image(false)));
    }

    private static void keeps(String what, ToLongFunction<ClayBoots> told) {
        ClayBoots x = Shires.rich();
        told.applyAsLong(x);
        Due.is("42 " + what + " forgets nothing", x.look(14), 4);
        ClayBoots y = Shires.rich();
        x.undo();
        y.undo();
        Due.is("42 what goes back behind " + what, x.doorOf(2, 1) * 100 + x.look(8), y.doorOf(2, 1) * 100 + y.look(8));
    }

    /** Terms 4: "but THE LAW, WAYS and what is told for thought (CLAYS, BACK, WEARS, LINE, FAIR, WIDOW, WEAR) (the taking of THE IMAGE does not)" */
    private static void whatDoesNotForget() {
        keeps("a law", x -> one(x.end(0)) + Due.tell(x, 0, "takes 1;"));
        keeps("no law", x -> one(x.end(0)) + x.text(0));
        keeps("ways", x -> one(x.end(0)) + Due.tell(x, 3, "door 0 door 1 1;"));
        keeps("no ways", x -> one(x.end(0)) + x.text(3));
        keeps("clays", x -> one(x.clay(0, 9)));
        keeps("a garden", x -> one(x.garden(4, 4)));
        keeps("a wear", x -> x.wear(1, 1));
        keeps("no wears", x -> x.wear(NONE, 0));
        keeps("a caller", x -> x.caller(1, 1));
        keeps("no callers", x -> x.caller(NONE, 0));
        keeps("a worth", x -> x.worth(1));
        keeps("no worths", x -> x.worth(NONE));
        keeps("an offer", x -> x.offer(1, 1));
        keeps("no offers", x -> x.offer(NONE, 0));
        keeps("a number", x -> x.worn(1));
        keeps("no numbers", x -> x.worn(NONE));
        keeps("taking the image", x -> one(x.image(true)));
        keeps("feeding the tape", x -> x.feed(1, 2, 3, 4, 5));
        keeps("ending the tape", x -> one(x.end(1)));
    }

    /** Terms 4: "whatever else is told" What is refused is not told. */
    private static void refusedForgetsNothing() {
        keeps("calls with a fault", x -> one(x.end(0)) + Due.tell(x, 1, "on"));
        keeps("a sky with a fault", x -> one(x.end(0)) + Due.tell(x, 2, "on"));
        keeps("no such text", x -> x.text(4));
        keeps("a field that can't be", x -> x.field(6, 0));
        keeps("a person that can't be", x -> x.person(3, 1, 0));
        keeps("what can't be set", x -> one(x.set(0, 0, 10)));
        keeps("a call that can't be", x -> x.call(0, 14, 0));
        keeps("an act that is so", x -> one(x.act(4, 0)));
        keeps("days that can't be", x -> x.days(61));
        ClayBoots full = Shires.full();
        full.door(true);
        full.field(0, 0);
        full.person(0, 1, 1);
        Due.is("42 one too many forgets nothing", full.look(14), 6);
        ClayBoots none = new ClayBoots();
        none.act(3, 0);
        none.image(false);
        Due.is("42 no image forgets nothing", none.look(14), 1);
    }

    /** Terms 4: "but THE LAW, WAYS and what is told for thought" What is undone is not what was told since. */
    private static void lawAndWaysStay() {
        ClayBoots x = Shires.rich();
        x.end(0);
        Due.tell(x, 0, "takes 42;");
        Due.tell(x, 3, "door 0 door 2 42;");
        x.clay(2, 9);
        x.wear(1, 1);
        for (int i = 0; i < 4; i++) {
            x.undo();
        }
        Due.is("42 the law stays", x.of(0, 20), 42);
        Due.is("42 ways stay", x.doorOf(0, 22), 42);
        Due.is("42 clays stay", x.mix(2), 10);
        Due.is("42 wears stay", x.wear(1, 1), 4);
    }

    /** Promise 43: "THE IMAGE is taken (true), or gone back to (false): true; false if there is none." */
    private static void noImage() {
        Supplier<ClayBoots> none = () -> {
            ClayBoots x = Shires.bare(90, "takes 8;leaves 500;strays 600;");
            x.call(0, 10, 0);
            x.days(1);
            x.wear(1, 1);
            Due.put(x, "takes 1;");
            return x;
        };
        Alike.refused("43 there is none", none, x -> one(x.image(false)), 0);
        ClayBoots x = new ClayBoots();
        Due.is("43 taken", x.image(true), true);
        Due.is("43 gone back to", x.image(false), true);
    }

    /** Whatever can be told or done, without the tape. */
    private static long change(ClayBoots x) {
        x.field(1, 1);
        x.door(true);
        x.person(3, 2, 2);
        x.set(0, 0, 9);
        x.set(1, 3, 33);
        x.set(2, 1, 3);
        x.act(1, 0);
        x.call(2, 1320, 0);
        x.act(2, 1);
        x.call(1, 10, 1);
        x.days(4);
        x.act(0, 1);
        x.act(4, 0);
        x.call(0, 1123, 2);
        x.state(-9);
        x.clay(2, 8);
        x.clay(0, 8);
        x.garden(0, 0);
        x.garden(3, 5);
        x.wear(NONE, 0);
        x.wear(9, 9);
        x.caller(NONE, 0);
        x.caller(9, 9);
        x.worth(NONE);
        x.worth(9);
        x.offer(NONE, 0);
        x.offer(3, 3);
        x.worn(NONE);
        return x.worn(7);
    }

    /** As it was when the image is taken, with nothing to undo. */
    private static ClayBoots as(Supplier<ClayBoots> made) {
        ClayBoots x = made.get();
        x.state(x.look(9));
        return x;
    }

    private static void back(String what, Supplier<ClayBoots> made, ToLongFunction<ClayBoots> changed) {
        Alike.butForTheImage("43 " + what, () -> {
            ClayBoots x = made.get();
            Due.is("43 taken", x.image(true), true);
            changed.applyAsLong(x);
            Due.is("43 gone back", x.image(false), true);
            return x;
        }, () -> as(made));
    }

    /** All texts told anew; the tape is empty, and fault() tells nothing, as it was. */
    private static long changeTexts(ClayBoots x) {
        Due.tell(x, 0, "takes 2;leaves 999;strays 7;");
        Due.tell(x, 1, "on 2 person 1 by 3 to 1;");
        Due.tell(x, 2, "on 2 wet 9;on 3 frost;on 4 thaw;");
        Due.tell(x, 3, "door 0 door 2 3;");
        return x.text(NONE);
    }

    private static ClayBoots withoutTape(Supplier<ClayBoots> made) {
        ClayBoots x = made.get();
        x.end(0);
        x.text(NONE);
        return x;
    }

    /** Terms 4: "THE IMAGE: all that is and was told but the TAPE, fault() and what can be undone (nothing then), as it was when it was taken;" */
    private static void imageGoesBack() {
        back("from nothing else", Shires::rich, x -> 0);
        back("from what was told and done", Shires::rich, PastEdgesTest::change);
        Supplier<ClayBoots> empty = () -> withoutTape(Shires::rich);
        back("from other texts", empty, PastEdgesTest::changeTexts);
        back("from other texts and all else", empty, x -> changeTexts(x) + change(x));
        back("from no texts", empty, x -> x.text(0) + x.text(1) + x.text(2) + x.text(3));
        // The book: behind two that are undone other lines come in the places of those of the image.
        back("from what was undone", Shires::rich, x -> one(x.undo()) + one(x.undo()) + x.call(1, 13, 0) + one(x.act(0, 1)) + x.days(1));
        back("from what was undone, all of it", Shires::rich, x -> one(x.undo()) + one(x.undo()) + one(x.undo()) + one(x.undo()) + change(x));
    }

    /** Terms 4: "gone back to it may be more than once." */
    private static void imageMoreThanOnce() {
        back("twice", Shires::rich, x -> change(x) + one(x.image(false)) + change(x));
        back("at once again", Shires::rich, x -> one(x.image(false)) + one(x.image(false)));
        back("from what was undone from it", Shires::rich, x -> one(x.image(false)) + x.days(2) + one(x.undo()) + change(x));
        Supplier<ClayBoots> taken = () -> {
            ClayBoots x = Shires.rich();
            x.image(true);
            return x;
        };
        Alike.unchanged("43 it is there still", () -> {
            ClayBoots x = taken.get();
            x.image(false);
            return x;
        }, x -> change(x) + one(x.image(false)));
    }

    /** Terms 4: "but the TAPE, fault()" */
    private static void imageLeavesTapeAndFault() {
        ClayBoots x = Shires.rich();
        x.image(true);
        Due.is("43 taking leaves fault()", x.fault(0) * 100 + x.fault(1), 208);
        Due.is("43 taking leaves the tape", x.end(22), true);
        Due.is("43 taking leaves no more", x.end(23), false);
        x.end(0);
        Due.tell(x, 3, "door");
        Due.put(x, "takes 17;");
        x.image(false);
        Due.is("43 fault() is as it was ahead", x.fault(0) * 100 + x.fault(1), 104);
        Due.is("43 the tape, too", x.end(9), true);
        Due.is("43 and no more", x.end(10), false);
        Due.is("43 it is told", x.text(0), 1);
        Due.is("43 it tells", x.of(0, 20), 17);
    }

    /** Terms 4: "what can be undone (nothing then)" */
    private static void imageForgets() {
        ClayBoots x = Shires.rich();
        Due.is("43 four", x.look(14), 4);
        x.image(true);
        Due.is("43 four still", x.look(14), 4);
        x.image(false);
        Due.is("43 nothing then", x.look(14), 0);
        Due.is("43 nothing to undo", x.undo(), false);
        x.act(3, 0);
        Due.is("43 then one", x.look(14), 1);
        Due.is("43 which is undone", x.undo(), true);
        Due.is("43 to the image", x.look(4), 0);
    }

    /** Terms 4: "as it was when it was taken;" */
    private static void imageTakenAgain() {
        ClayBoots x = new ClayBoots();
        x.set(0, 0, 1);
        x.image(true);
        x.set(0, 0, 2);
        x.image(false);
        Due.is("43 the first", x.look(3), 1);
        x.set(0, 0, 3);
        x.image(true);
        x.set(0, 0, 4);
        x.image(false);
        Due.is("43 the later one", x.look(3), 3);
        x.act(3, 0);
        x.image(true);
        x.undo();
        Due.is("43 what is undone behind it", x.look(4), 0);
        x.image(false);
        Due.is("43 is not undone in it", x.look(4), 1);
    }

    /** Terms 4: "THE IMAGE: all that is and was told" Of an empty shire. */
    private static void imageOfNothing() {
        back("to nothing", ClayBoots::new, x -> {
            x.field(1, 1);
            x.door(true);
            x.door(false);
            x.person(1, 2, 2);
            Due.tell(x, 0, "takes 2;");
            Due.tell(x, 1, "on 0 person 0 by 0 to 0;");
            Due.tell(x, 2, "on 0 wet 9;");
            Due.tell(x, 3, "door 0 door 1 3;");
            return change(x);
        });
        ClayBoots x = new ClayBoots();
        x.image(true);
        x.door(true);
        x.image(false);
        x.door(false);
        Due.is("43 nothing is left of a door that was", x.look(7), 0);
        ClayBoots y = new ClayBoots();
        y.door(false);
        y.image(true);
        y.field(0, 50);
        y.person(0, 9, 0);
        y.call(0, 10, 0);
        y.image(false);
        y.field(0, 50);
        y.person(0, 9, 0);
        Due.is("43 nor of boots, heaps and calls", y.of(0, 4) + y.of(0, 3) + y.doorOf(0, 1) + y.look(5) + y.look(8), 0);
    }

    /** Terms 4: "THE IMAGE: all that is and was told" Of a shire in which there is no room for more. */
    private static void imageOfAFullShire() {
        back("to a full shire", Shires::full, PastEdgesTest::change);
        back("to a full shire from other texts", () -> withoutTape(Shires::full), x -> changeTexts(x) + change(x));
    }

    /** Promise 44: "What 0 FIELDS, 1 DOORS, 2 PEOPLE, 3 WET, 4 FROST, 5 MOVED, 6 DAY, 7 STONE (a set), 8 lines of THE BOOK, 9 STATE, 10 lines of THE LAW, 11 of CALLS, 12 of SKY, 13 of WAYS, 14 what can be undone. NONE for another what. (STATE as it is.)" */
    private static void look() {
        for (int what : new int[] {LEAST, -1, 15, 16, MOST}) {
            Alike.refused("44 look(" + what + ")", Shires::rich, x -> x.look(what), NONE);
        }
        ClayBoots x = Shires.full();
        int[] due = {10, 8, 12, 0, 0, x.look(5), 0, 128, 150, 0, 3, 0, 0, 0, 6};
        for (int what = 0; what < due.length; what++) {
            Due.is("44 look(" + what + ")", x.look(what), due[what]);
        }
        Due.is("44 moved is what is in heaps", x.look(5), acres(x));
        for (int state : new int[] {LEAST, -2, -1, 0, 1, MOST}) {
            x.state(state);
            Due.is("44 state as it is", x.look(9), state);
        }
        ClayBoots y = new ClayBoots();
        y.door(false);
        y.door(false);
        y.field(0, 0);
        y.person(0, 1, 1);
        String[] lines = {"takes 1;", "on 0person 0by 0to 0;", "on 0frost;", "door 0door 1 1;"};
        for (int k = 0; k < 4; k++) {
            Due.tell(y, k, lines[k].repeat(16 - k));
        }
        for (int k = 0; k < 4; k++) {
            Due.is("44 lines of text " + k, y.look(10 + k), 16 - k);
        }
    }

    private static int acres(ClayBoots x) {
        int sum = 0;
        for (int d = 0; d < 8; d++) {
            sum += x.doorOf(d, 1);
        }
        return sum;
    }

    /** Promise 44: "7 STONE (a set)" */
    private static void lookAtSets() {
        ClayBoots x = Shires.of(0, 8, 0);
        int set = 0;
        for (int d = 7; d >= 0; d--) {
            x.act(1, d);
            set |= 1 << d;
            Due.is("44 stone from the last to the first", x.look(7), set);
        }
        for (int d = 0; d < 8; d++) {
            x.act(2, d);
            set &= ~(1 << d);
            Due.is("44 taken up from the first to the last", x.look(7), set);
        }
    }

    /** Promise 44: "14 what can be undone." */
    private static void lookAtWhatCanBeUndone() {
        ClayBoots x = new ClayBoots();
        int[] due = {1, 2, 3, 4, 5, 6, 6, 6};
        for (int i = 0; i < due.length; i++) {
            x.days(1);
            Due.is("44 up to six", x.look(14), due[i]);
        }
        for (int left = 5; left >= 0; left--) {
            x.undo();
            Due.is("44 down to none", x.look(14), left);
        }
        x.undo();
        Due.is("44 never below", x.look(14), 0);
    }
}
