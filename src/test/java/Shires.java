/** Shires to try an edge on: a bare one, one in which everything is told, one that is full. */
final class Shires {
    private static final int NONE = ClayBoots.NONE;

    private Shires() {
    }

    /** One field of clay 3, two doors without stone, one person of size 9 and heel 4 who lives at door 0. */
    static ClayBoots bare(int land, String law) {
        ClayBoots x = new ClayBoots();
        x.field(3, land);
        x.door(false);
        x.door(false);
        x.person(0, 9, 4);
        Due.is("the law is sound: " + law, Due.tell(x, 0, law) != NONE, true);
        return x;
    }

    /** So many of each, and nothing else. */
    static ClayBoots of(int fields, int doors, int people) {
        ClayBoots x = new ClayBoots();
        for (int f = 0; f < fields; f++) {
            x.field(f % 6, 100 + f);
        }
        for (int d = 0; d < doors; d++) {
            x.door(false);
        }
        for (int p = 0; p < people; p++) {
            x.person(p % doors, 1 + p % 9, p % 10);
        }
        return x;
    }

    /** Nothing is as it was at first: so that whatever is lost, or comes by mistake, is seen. Four can be undone. */
    static ClayBoots rich() {
        ClayBoots x = new ClayBoots();
        x.field(2, 50);
        x.field(0, 7);
        x.field(5, 100);
        x.field(2, 9990);
        x.door(false);
        x.door(true);
        x.door(false);
        x.person(0, 3, 5);
        x.person(2, 1, 9);
        x.person(1, 9, 0);
        x.set(0, 0, 4);
        Due.tell(x, 0, "takes size+wet;leaves 700 when heel>4;leaves 250;strays 600 when stone=1;");
        Due.tell(x, 1, "on 3 person 0 by 0 2 to 0;on 4 person 2 by 3 to 2;");
        Due.tell(x, 2, "on 4 wet 2;on 5 frost;");
        Due.tell(x, 3, "door 0 door 1 9;door 1 door 2 4;");
        tellThoughts(x);
        x.call(0, 102, 0);
        x.call(1, 11, 2);
        x.image(true);
        x.state(77);
        x.call(2, 133, 1);
        x.days(2);
        x.act(0, 2);
        Due.tell(x, 0, "takes 1/0;");
        Due.put(x, "on 7 wet 3;on 8 frost;");
        return x;
    }

    private static void tellThoughts(ClayBoots x) {
        x.clay(2, 5);
        x.clay(5, 1);
        x.garden(0, 1);
        x.garden(1, 0);
        x.wear(3, 4);
        x.wear(50, 60);
        x.caller(5, 10);
        x.caller(5, 3);
        x.worth(5);
        x.worth(9);
        x.worth(6);
        x.offer(2, 9);
        x.offer(1, 12);
        x.worn(3);
        x.worn(1);
        x.worn(4);
    }

    /** Ten fields, eight doors, twelve people, a book of 150 lines, full lists, a full tape; six can be undone. */
    static ClayBoots full() {
        ClayBoots x = of(10, 8, 12);
        x.act(1, 7);
        Due.tell(x, 0, "takes 9;leaves 500;strays 100 when heel=9;");
        x.set(1, 0, 9999);
        for (int i = 0; i < 75; i++) {
            x.call(8, 10, i % 7);
        }
        Due.is("the book is full", x.look(8), 150);
        fill(x);
        x.image(true);
        for (int i = 0; i < 6; i++) {
            x.act(i % 2 == 0 ? 3 : 4, 0);
        }
        for (int i = 0; i < 20; i++) {
            x.feed(i, -i, 7, 8, 9);
        }
        return x;
    }

    private static void fill(ClayBoots x) {
        for (int i = 0; i < 10; i++) {
            x.wear(9 * i, 99 - 7 * i);
            x.caller(50 - i, 1 + 3 * i);
        }
        for (int i = 0; i < 20; i++) {
            x.worth(7 * i % 20);
        }
        for (int i = 0; i < 8; i++) {
            x.offer(i % 4, 10 * i);
        }
        for (int i = 0; i < 12; i++) {
            x.worn(5 * i % 12);
        }
    }
}
