/** A clay shire: land goes from door to door on boots, by a law that is told as a text. */
public final class ClayBoots {
    public static final int NONE = -1;

    private static final int NOWHERE = NONE - 1;
    private static final int FIELDS = 10;
    private static final int CLAYS = 6;
    private static final int DOORS = 8;
    private static final int PEOPLE = 12;
    private static final int MOST_LAND = 9999;
    private static final int MOST_WET = 9;
    private static final int MOST_SIZE = 9;
    private static final int MOST_HEEL = 9;
    private static final int LAST_DAY = 9999;
    private static final int DAYS_AT_ONCE = 60;
    private static final int CALLS_AT_MOST = 99;
    private static final int ROOM_OF_A_SIZE = 10;
    private static final int ROW_FIELDS = 6;
    private static final int ORDER_FIELDS = 5;
    private static final int BOOK_LINES = 150;
    private static final int BOOK_PARTS = 4;
    private static final int KEPT = 6;

    private static final int DRAW_FACTOR = 1664525;
    private static final int DRAW_STEP = 1013904223;
    private static final int THOUSAND = 1000;
    private static final int MOST_TAKES = 99;
    private static final int LEAVES_UNTOLD = 500;
    private static final int STRAYS_IN_THOUGHT = 500;
    private static final int MOST_LATER = 2000000000;
    private static final int MOST_DRAWS = 999;

    private static final int TAPE_BYTES = 400;
    private static final int BYTES_A_FEED = 20;
    private static final int DIGITS = 4;
    private static final int LINES = 16;
    private static final int OPEN_AT_ONCE = 8;
    private static final int STACK = 32;
    private static final int LAST_TOLD_DAY = 999;
    private static final int MOST_WAY = 99;

    private static final int TEXT_LAW = 0;
    private static final int TEXT_CALLS = 1;
    private static final int TEXT_SKY = 2;
    private static final int TEXT_WAYS = 3;

    // A line of SKY tells 0 .. 9 for WET, or one of these.
    private static final int SKY_FROST = 10;
    private static final int SKY_THAW = 11;

    private static final int BOOK_CALLED = 0;
    private static final int BOOK_LEFT = 1;
    private static final int BOOK_FELL = 2;
    private static final int BOOK_SWEPT = 3;

    private static final int CANT_STAND = 1;
    private static final int BEYOND = 2;
    private static final int TOO_MANY = 3;

    // A token is one number: a NUMBER is itself, a word WORD and its place in WORDS, any other byte SIGN and itself.
    private static final int WORD = 10000;
    private static final int SIGN = 20000;
    private static final int NO_TOKEN = 30000;
    private static final int TEXT_END = 30001;

    // The facts stand first, so that a fact's place here is its place among the facts, too.
    private static final String WORDS = "size heel clay land load wet frost stone called day takes leaves strays when or and not on person by to thaw door";
    private static final int FACTS = 10;
    private static final int SIZE = 0;
    private static final int HEEL = 1;
    private static final int CLAY = 2;
    private static final int LAND = 3;
    private static final int LOAD = 4;
    private static final int WET = 5;
    private static final int FROST = 6;
    private static final int STONE = 7;
    private static final int TIMES = 8;
    private static final int DAY = 9;
    private static final int TAKES = WORD + 10;
    private static final int LEAVES = WORD + 11;
    private static final int STRAYS = WORD + 12;
    private static final int WHEN = WORD + 13;
    private static final int OR = WORD + 14;
    private static final int AND = WORD + 15;
    private static final int NOT = WORD + 16;
    private static final int ON = WORD + 17;
    private static final int PERSON = WORD + 18;
    private static final int BY = WORD + 19;
    private static final int TO = WORD + 20;
    private static final int THAW = WORD + 21;
    private static final int DOOR = WORD + 22;
    private static final int STOP = SIGN + ';';
    private static final int MORE = SIGN + '+';
    private static final int LESS = SIGN + '-';
    private static final int FOLD = SIGN + '*';
    private static final int PART = SIGN + '/';
    private static final int BELOW = SIGN + '<';
    private static final int LIKE = SIGN + '=';
    private static final int ABOVE = SIGN + '>';
    private static final int OPENS = SIGN + '(';
    private static final int CLOSES = SIGN + ')';

    private static final int MOST_SUM = 30;
    private static final int PRIME = 1000000007;
    private static final int GARDENS = 8;
    private static final int WEARS = 10;
    private static final int MOST_WEAR = 99;
    private static final int MOST_APART = 198;
    private static final int CALLERS = 10;
    private static final int MOST_COME = 99;
    private static final int MOST_STAY = 30;
    private static final int SCRAPERS = 4;
    private static final int FAIR_DAYS = 20;
    private static final int MOST_WORTH = 99;
    private static final int MOST_GAP = 9;
    private static final int OFFERS = 8;
    private static final int FARMERS = 4;
    private static final int MOST_OFFER = 99;
    private static final int WORN = 12;
    private static final int MOST_WORN = 99;
    private static final int MOST_TAKEN = 3;
    private static final int TURNS = MOST_TAKEN + 1;
    private static final int FAR = 1000000;

    private final Shire shire;
    private final Shire dreamt;
    private final Law law;
    private final Plans plans;
    private final Thoughts thoughts;
    private final Reader reader;
    private final Walk walk;
    private final Walk dream;
    private final Past past;
    private final Image kept;

    public ClayBoots() {
        shire = new Shire();
        dreamt = new Shire();
        law = new Law();
        plans = new Plans();
        thoughts = new Thoughts();
        reader = new Reader(shire);
        walk = new Walk(shire, law, plans, false);
        dream = new Walk(dreamt, law, plans, true);
        past = new Past();
        kept = new Image();
    }

    public int state(int v) {
        int was = shire.draws;
        past.forget();
        shire.draws = v;
        return was;
    }

    public int field(int clay, int land) {
        if (!within(clay, 0, CLAYS - 1) || !within(land, 0, MOST_LAND) || shire.fieldCount >= FIELDS) {
            return NONE;
        }
        past.forget();
        return shire.addField(clay, land);
    }

    public int door(boolean stone) {
        if (shire.doorCount >= DOORS) {
            return NONE;
        }
        past.forget();
        return shire.addDoor(stone);
    }

    public int person(int home, int size, int heel) {
        if (!shire.hasDoor(home) || !within(size, 1, MOST_SIZE) || !within(heel, 0, MOST_HEEL)
                || shire.personCount >= PEOPLE) {
            return NONE;
        }
        past.forget();
        return shire.addPerson(home, size, heel);
    }

    public boolean set(int what, int who, int v) {
        if (what == 0 && within(v, 0, MOST_WET)) {
            shire.wet = v;
        } else if (what == 1 && shire.hasField(who) && within(v, 0, MOST_LAND)) {
            shire.lands[who] = v;
        } else if (what == 2 && shire.hasPerson(who) && within(v, 0, MOST_HEEL)) {
            shire.heels[who] = v;
        } else {
            return false;
        }
        past.forget();
        return true;
    }

    public int call(int person, int fields, int door) {
        if (!shire.hasPerson(person) || !shire.hasDoor(door) || !shire.hasRow(fields)) {
            return NONE;
        }
        past.keep(shire);
        return walk.visit(person, fields, door);
    }

    public boolean act(int what, int who) {
        if (!canAct(what, who)) {
            return false;
        }
        past.keep(shire);
        if (what == 0) {
            walk.sweep(who);
        } else if (what <= 2) {
            shire.stones[who] = what == 1 ? 1 : 0;
        } else {
            shire.frost = what == 3 ? 1 : 0;
        }
        return true;
    }

    private boolean canAct(int what, int who) {
        switch (what) {
            case 0:
                return shire.hasDoor(who);
            case 1:
                return shire.hasDoor(who) && shire.stones[who] == 0;
            case 2:
                return shire.hasDoor(who) && shire.stones[who] == 1;
            case 3:
                return shire.frost == 0;
            case 4:
                return shire.frost == 1;
            default:
                return false;
        }
    }

    public int days(int n) {
        if (!within(n, 1, DAYS_AT_ONCE) || shire.day + n > LAST_DAY) {
            return NONE;
        }
        int calls = 0;
        for (int i = 0; i < n; i++) {
            if (n - i <= KEPT) {
                past.keep(shire);
            }
            calls += walk.passDay();
        }
        return calls;
    }

    public int feed(int a, int b, int c, int d, int e) {
        if (reader.size + BYTES_A_FEED > TAPE_BYTES) {
            return NONE;
        }
        reader.take(a);
        reader.take(b);
        reader.take(c);
        reader.take(d);
        reader.take(e);
        return reader.size;
    }

    public boolean end(int n) {
        if (n < 0 || n > reader.size) {
            return false;
        }
        reader.size = n;
        return true;
    }

    public int text(int k) {
        int lines = reader.read(k);
        if (lines == NONE) {
            return NONE;
        }
        switch (k) {
            case TEXT_LAW:
                law.become(reader.law);
                break;
            case TEXT_CALLS:
                plans.becomeCalls(reader.plans);
                past.forget();
                break;
            case TEXT_SKY:
                plans.becomeSky(reader.plans);
                past.forget();
                break;
            default:
                plans.becomeWays(reader.plans);
                break;
        }
        return lines;
    }

    public int fault(int what) {
        switch (what) {
            case 0:
                return reader.faultKind;
            case 1:
                return reader.faultPlace;
            default:
                return NONE;
        }
    }

    public int of(int person, int what) {
        if (!shire.hasPerson(person)) {
            return NONE;
        }
        switch (what) {
            case 0:
                return shire.homes[person];
            case 1:
                return shire.sizes[person];
            case 2:
                return shire.heels[person];
            case 3:
                return shire.times[person];
            case 4:
                return shire.loadOf(person);
            default:
                break;
        }
        if (within(what, 10, 19) && shire.hasField(what - 10)) {
            return shire.boots[person * FIELDS + what - 10];
        }
        if (within(what, 20, 29) && shire.hasField(what - 20)) {
            return walk.asks(TAKES, person, what - 20, NONE);
        }
        return NONE;
    }

    public int fieldOf(int field, int what) {
        if (!shire.hasField(field)) {
            return NOWHERE;
        }
        switch (what) {
            case 0:
                return shire.clays[field];
            case 1:
                return shire.lands[field];
            case 2:
                return shire.holderOf(field);
            default:
                return NOWHERE;
        }
    }

    public int doorOf(int door, int what) {
        if (!shire.hasDoor(door)) {
            return NOWHERE;
        }
        switch (what) {
            case 0:
                return shire.stones[door];
            case 1:
                return shire.acresOf(door);
            case 2:
                return shire.countyOf(door);
            default:
                break;
        }
        if (within(what, 10, 19) && shire.hasField(what - 10)) {
            return shire.heaps[door * FIELDS + what - 10];
        }
        if (within(what, 20, 27) && shire.hasDoor(what - 20)) {
            return plans.wayBetween(door, what - 20);
        }
        return NOWHERE;
    }

    public int tells(int person, int field, int door, int what) {
        if (!shire.hasPerson(person) || !shire.hasDoor(door)) {
            return NONE;
        }
        if (what == 0 && shire.hasField(field)) {
            return walk.asks(LEAVES, person, field, door);
        }
        return what == 1 ? walk.asks(STRAYS, person, NONE, door) : NONE;
    }

    public int book(int i, int what) {
        if (!within(i, 0, shire.book.lines - 1) || !within(what, 0, BOOK_PARTS - 1)) {
            return NONE;
        }
        return shire.book.parts[i * BOOK_PARTS + what];
    }

    public int goes(int n, int what) {
        if (!within(n, 1, DAYS_AT_ONCE) || !within(what, 0, 2)) {
            return NONE;
        }
        dreamt.becomeLand(shire);
        for (int i = 0; i < n; i++) {
            dream.passDay();
        }
        if (what == 0) {
            return dreamt.moved;
        }
        return what == 1 ? dreamt.loadOfAll() : dreamt.heldFields();
    }

    public int would(int person, int field, int door, int what) {
        if (!shire.hasAll(person, field, door) || !within(what, 0, 1)) {
            return NONE;
        }
        dreamt.becomeLand(shire);
        int hatfuls = dream.visit(person, 10 + field, door);
        return what == 0 ? hatfuls : dream.wiped;
    }

    public int many(int person, int field, int door, int n) {
        if (!shire.hasAll(person, field, door) || !within(n, 1, MOST_LAND)) {
            return NONE;
        }
        dreamt.becomeLand(shire);
        for (int calls = 0; calls <= CALLS_AT_MOST; calls++) {
            if (dreamt.heaps[door * FIELDS + field] >= n) {
                return calls;
            }
            dream.visit(person, 10 + field, door);
        }
        return NONE;
    }

    public int order(int person, int door, int fields, int what) {
        int count = Integer.bitCount(fields);
        if (!shire.hasPerson(person) || !shire.hasDoor(door) || fields <= 0 || fields >= 1 << shire.fieldCount
                || count > ORDER_FIELDS || what != 0 && !within(what, 10, 9 + count)) {
            return NONE;
        }
        int orders = factorial(count);
        int most = NONE;
        int best = 0;
        for (int p = 0; p < orders; p++) {
            int row = orderedRow(fields, p);
            dreamt.becomeLand(shire);
            int hatfuls = dream.visit(person, row, door);
            if (hatfuls > most) {
                most = hatfuls;
                best = row;
            }
        }
        return what == 0 ? most : fieldInRow(best, what - 10);
    }

    /** Number p of all orders of a set, where the orders go up like numbers whose digits are the fields. */
    private static int orderedRow(int fields, int p) {
        int left = fields;
        int row = 1;
        int rest = p;
        for (int count = Integer.bitCount(fields); count > 0; count--) {
            int orders = Math.max(1, factorial(count - 1));
            int pick = bitAt(left, rest / orders);
            rest = rest % orders;
            left = left & ~(1 << pick);
            row = row * 10 + pick;
        }
        return row;
    }

    private static int factorial(int n) {
        int product = 1;
        for (int i = 2; i <= n && i <= ORDER_FIELDS; i++) {
            product *= i;
        }
        return product;
    }

    private static int bitAt(int bits, int place) {
        int ahead = 0;
        for (int i = 0; i < FIELDS; i++) {
            if ((bits >> i & 1) == 1) {
                if (ahead == place) {
                    return i;
                }
                ahead++;
            }
        }
        return 0;
    }

    private static int fieldInRow(int row, int place) {
        int unit = unitOf(row) / 10;
        for (int i = 0; i < place && i < ROW_FIELDS; i++) {
            unit /= 10;
        }
        return unit > 0 ? row / unit % 10 : NONE;
    }

    public boolean clay(int kind, int v) {
        if (!within(kind, 0, CLAYS - 1) || !within(v, 0, MOST_SUM)) {
            return false;
        }
        thoughts.sums[kind] = v;
        return true;
    }

    public int mix(int kind) {
        if (within(kind, 0, CLAYS - 1)) {
            return thoughts.waysToGive(kind, shire);
        }
        if (kind != NONE) {
            return NONE;
        }
        long all = 1;
        for (int c = 0; c < CLAYS; c++) {
            all = all * thoughts.waysToGive(c, shire) % PRIME;
        }
        return (int) all;
    }

    public boolean garden(int a, int b) {
        if (!within(a, 0, GARDENS - 1) || !within(b, 0, GARDENS - 1)) {
            return false;
        }
        thoughts.gardens[a] = b;
        return true;
    }

    public int back(int what) {
        return within(what, 0, 1) ? thoughts.putBack(what == 0) : NONE;
    }

    public int wear(int left, int right) {
        if (left == NONE) {
            return thoughts.wears.clear();
        }
        boolean can = within(left, 0, MOST_WEAR) && within(right, 0, MOST_WEAR);
        return can ? thoughts.wears.add(left, right) : NONE;
    }

    public int whose(int left, int right) {
        boolean can = within(left, 0, MOST_WEAR) && within(right, 0, MOST_WEAR);
        return can ? thoughts.nearestWear(left, right) : NONE;
    }

    public int couples(int d) {
        return within(d, 0, MOST_APART) ? thoughts.closeWears(d) : NONE;
    }

    public int caller(int come, int stay) {
        if (come == NONE) {
            return thoughts.callers.clear();
        }
        boolean can = within(come, 0, MOST_COME) && within(stay, 1, MOST_STAY);
        return can ? thoughts.callers.add(come, stay) : NONE;
    }

    public int line(int s, int what) {
        return within(s, 1, SCRAPERS) && within(what, 0, 1) ? thoughts.standInLine(s, what == 0) : NONE;
    }

    public int worth(int v) {
        if (v == NONE) {
            return thoughts.worths.clear();
        }
        return within(v, 0, MOST_WORTH) ? thoughts.worths.add(v, 0) : NONE;
    }

    public int fair(int g, int what) {
        return within(g, 0, MOST_GAP) && within(what, 0, 1) ? thoughts.bestDays(g, what == 0) : NONE;
    }

    public int offer(int farmer, int v) {
        if (farmer == NONE) {
            return thoughts.offers.clear();
        }
        boolean can = within(farmer, 0, FARMERS - 1) && within(v, 0, MOST_OFFER);
        return can ? thoughts.offers.add(farmer, v) : NONE;
    }

    public int widow(int what) {
        if (thoughts.offers.count == 0 || !within(what, 0, 1)) {
            return NONE;
        }
        int who = thoughts.mostOffering(NONE);
        return what == 0 ? who : Math.max(0, thoughts.greatestOf(thoughts.mostOffering(who)));
    }

    public int span(int a, int b) {
        if (a == NONE) {
            return plans.leastSum(shire.doorCount);
        }
        return shire.hasDoor(a) && shire.hasDoor(b) ? plans.apart(a, b, shire.doorCount) : NONE;
    }

    /** Two draws are one draw of another factor and step, so n draws need only as many as n has bits. */
    public int later(int n) {
        if (!within(n, 0, MOST_LATER)) {
            return 0;
        }
        int then = shire.draws;
        int factor = DRAW_FACTOR;
        int step = DRAW_STEP;
        for (int bit = 0; bit < 31; bit++) {
            if ((n >> bit & 1) == 1) {
                then = factor * then + step;
            }
            step = factor * step + step;
            factor = factor * factor;
        }
        return then;
    }

    public int first(int m, int v) {
        if (!within(m, 2, THOUSAND) || !within(v, 1, m)) {
            return NONE;
        }
        int then = shire.draws;
        for (int n = 1; n <= MOST_DRAWS; n++) {
            then = afterDraw(then);
            if (drawn(then, m) < v) {
                return n;
            }
        }
        return NONE;
    }

    public int worn(int v) {
        if (v == NONE) {
            return thoughts.worns.clear();
        }
        return within(v, 0, MOST_WORN) ? thoughts.worns.add(v, 0) : NONE;
    }

    public int row(int what) {
        return within(what, 0, 1) ? thoughts.longestRow(what == 0) : NONE;
    }

    /** Of a heap only its remainder by four counts; who begins well leaves remainders that cancel out. */
    public int game(int what) {
        if (!within(what, 0, 1)) {
            return NONE;
        }
        int all = 0;
        for (int d = 0; d < shire.doorCount; d++) {
            all ^= shire.acresOf(d) % TURNS;
        }
        if (all == 0) {
            return NONE;
        }
        for (int d = 0; d < shire.doorCount; d++) {
            int acres = shire.acresOf(d);
            int due = acres % TURNS ^ all;
            for (int taken = 1; taken <= MOST_TAKEN && taken <= acres; taken++) {
                if ((acres - taken) % TURNS == due) {
                    return what == 0 ? d : taken;
                }
            }
        }
        return NONE;
    }

    public boolean undo() {
        return past.bringBack(shire);
    }

    public boolean image(boolean taken) {
        if (taken) {
            kept.taken = true;
            kept.shire.become(shire);
            kept.law.become(law);
            kept.plans.become(plans);
            kept.thoughts.become(thoughts);
            return true;
        }
        if (!kept.taken) {
            return false;
        }
        shire.become(kept.shire);
        law.become(kept.law);
        plans.become(kept.plans);
        thoughts.become(kept.thoughts);
        past.forget();
        return true;
    }

    public int look(int what) {
        switch (what) {
            case 0:
                return shire.fieldCount;
            case 1:
                return shire.doorCount;
            case 2:
                return shire.personCount;
            case 3:
                return shire.wet;
            case 4:
                return shire.frost;
            case 5:
                return shire.moved;
            case 6:
                return shire.day;
            case 7:
                return shire.stoneDoors();
            case 8:
                return shire.book.lines;
            case 9:
                return shire.draws;
            case 10:
                return law.lines;
            case 11:
                return plans.callLines;
            case 12:
                return plans.skyLines;
            case 13:
                return plans.wayLines;
            case 14:
                return past.count;
            default:
                return NONE;
        }
    }

    private static boolean within(int v, int least, int most) {
        return v >= least && v <= most;
    }

    private static int afterDraw(int draws) {
        return DRAW_FACTOR * draws + DRAW_STEP;
    }

    private static int drawn(int draws, int m) {
        return m > 0 ? (draws >>> 8) % m : 0;
    }

    /** The unit of the leading 1 of a row of one to six digits; 0 if it is no such row. */
    private static int unitOf(int row) {
        int unit = 1;
        for (int digits = 1; digits <= ROW_FIELDS; digits++) {
            unit *= 10;
            if (row >= unit && row < 2 * unit) {
                return unit;
            }
        }
        return 0;
    }

    /** Each heel is led to its heap by these lines. */
    private static final class Book {
        int lines;
        final int[] parts = new int[BOOK_LINES * BOOK_PARTS];

        void write(int day, int what, int who, int much) {
            if (lines >= BOOK_LINES) {
                return;
            }
            int at = lines * BOOK_PARTS;
            parts[at] = day;
            parts[at + 1] = what;
            parts[at + 2] = who;
            parts[at + 3] = much;
            lines++;
        }

        void become(Book other) {
            lines = other.lines;
            System.arraycopy(other.parts, 0, parts, 0, parts.length);
        }
    }

    /** All that days and calls can change, in one place, so that undoing is to copy it back. */
    private static final class Shire {
        int draws;
        int wet;
        int frost;
        int moved;
        int day;
        int fieldCount;
        int doorCount;
        int personCount;
        final int[] clays = new int[FIELDS];
        final int[] lands = new int[FIELDS];
        final int[] stones = new int[DOORS];
        final int[] heaps = new int[DOORS * FIELDS];
        final int[] homes = new int[PEOPLE];
        final int[] sizes = new int[PEOPLE];
        final int[] heels = new int[PEOPLE];
        final int[] times = new int[PEOPLE];
        final int[] boots = new int[PEOPLE * FIELDS];
        final Book book = new Book();

        void become(Shire other) {
            becomeLand(other);
            book.become(other.book);
        }

        /** Thought reads and writes no book, which is the largest part. */
        void becomeLand(Shire other) {
            draws = other.draws;
            wet = other.wet;
            frost = other.frost;
            moved = other.moved;
            day = other.day;
            fieldCount = other.fieldCount;
            doorCount = other.doorCount;
            personCount = other.personCount;
            System.arraycopy(other.clays, 0, clays, 0, FIELDS);
            System.arraycopy(other.lands, 0, lands, 0, FIELDS);
            System.arraycopy(other.stones, 0, stones, 0, DOORS);
            System.arraycopy(other.heaps, 0, heaps, 0, DOORS * FIELDS);
            System.arraycopy(other.homes, 0, homes, 0, PEOPLE);
            System.arraycopy(other.sizes, 0, sizes, 0, PEOPLE);
            System.arraycopy(other.heels, 0, heels, 0, PEOPLE);
            System.arraycopy(other.times, 0, times, 0, PEOPLE);
            System.arraycopy(other.boots, 0, boots, 0, PEOPLE * FIELDS);
        }

        boolean hasField(int f) {
            return f >= 0 && f < fieldCount && f < FIELDS;
        }

        boolean hasDoor(int d) {
            return d >= 0 && d < doorCount && d < DOORS;
        }

        boolean hasPerson(int p) {
            return p >= 0 && p < personCount && p < PEOPLE;
        }

        boolean hasAll(int p, int f, int d) {
            return hasPerson(p) && hasField(f) && hasDoor(d);
        }

        boolean hasRow(int row) {
            int unit = unitOf(row) / 10;
            if (unit == 0) {
                return false;
            }
            for (; unit > 0; unit /= 10) {
                if (!hasField(row / unit % 10)) {
                    return false;
                }
            }
            return true;
        }

        int addField(int kind, int hatfuls) {
            if (fieldCount >= FIELDS) {
                return NONE;
            }
            clays[fieldCount] = kind;
            lands[fieldCount] = hatfuls;
            fieldCount++;
            return fieldCount - 1;
        }

        int addDoor(boolean ofStone) {
            if (doorCount >= DOORS) {
                return NONE;
            }
            stones[doorCount] = ofStone ? 1 : 0;
            doorCount++;
            return doorCount - 1;
        }

        int addPerson(int home, int size, int heel) {
            if (personCount >= PEOPLE) {
                return NONE;
            }
            homes[personCount] = home;
            sizes[personCount] = size;
            heels[personCount] = heel;
            personCount++;
            return personCount - 1;
        }

        int loadOf(int p) {
            int sum = 0;
            if (hasPerson(p)) {
                for (int f = 0; f < FIELDS; f++) {
                    sum += boots[p * FIELDS + f];
                }
            }
            return sum;
        }

        int loadOfAll() {
            int sum = 0;
            for (int p = 0; p < personCount; p++) {
                sum += loadOf(p);
            }
            return sum;
        }

        int acresOf(int d) {
            int sum = 0;
            if (hasDoor(d)) {
                for (int f = 0; f < FIELDS; f++) {
                    sum += heaps[d * FIELDS + f];
                }
            }
            return sum;
        }

        int holderOf(int f) {
            int holder = NONE;
            int most = 0;
            for (int d = 0; d < doorCount && hasDoor(d) && hasField(f); d++) {
                if (heaps[d * FIELDS + f] > most) {
                    most = heaps[d * FIELDS + f];
                    holder = d;
                }
            }
            return holder;
        }

        int countyOf(int d) {
            int county = 0;
            for (int f = 0; f < fieldCount; f++) {
                if (holderOf(f) == d) {
                    county |= 1 << f;
                }
            }
            return county;
        }

        int heldFields() {
            int held = 0;
            for (int f = 0; f < fieldCount; f++) {
                if (holderOf(f) != NONE) {
                    held++;
                }
            }
            return held;
        }

        int stoneDoors() {
            int doors = 0;
            for (int d = 0; d < DOORS; d++) {
                doors |= stones[d] << d;
            }
            return doors;
        }

        void returnLand(int f, int hatfuls) {
            if (hasField(f)) {
                lands[f] = Math.min(MOST_LAND, lands[f] + hatfuls);
            }
        }
    }

    /** Calls and days on one shire; in thought there are no draws and no book. */
    private static final class Walk {
        final Shire shire;
        final Law law;
        final Plans plans;
        final boolean thought;
        final int[] facts = new int[FACTS];
        int wiped;

        Walk(Shire shire, Law law, Plans plans, boolean thought) {
            this.shire = shire;
            this.law = law;
            this.plans = plans;
            this.thought = thought;
        }

        /** FIELD or DOOR may be NONE: then the law hears 0 for what they would tell. */
        int asks(int word, int p, int f, int d) {
            if (!shire.hasPerson(p)) {
                return 0;
            }
            facts[SIZE] = shire.sizes[p];
            facts[HEEL] = shire.heels[p];
            facts[CLAY] = shire.hasField(f) ? shire.clays[f] : 0;
            facts[LAND] = shire.hasField(f) ? shire.lands[f] : 0;
            facts[LOAD] = shire.loadOf(p);
            facts[WET] = shire.wet;
            facts[FROST] = shire.frost;
            facts[STONE] = shire.hasDoor(d) ? shire.stones[d] : 0;
            facts[TIMES] = shire.times[p];
            facts[DAY] = shire.day;
            int most = word == TAKES ? MOST_TAKES : THOUSAND;
            return Math.max(0, Math.min(most, law.answer(word, facts)));
        }

        /** One CALL by a row of fields; hatfuls that came to the heap of the door that is wiped at then. */
        int visit(int p, int row, int d) {
            if (!shire.hasPerson(p) || !shire.hasDoor(d)) {
                return 0;
            }
            for (int unit = unitOf(row) / 10; unit > 0; unit /= 10) {
                takeUp(p, row / unit % 10);
            }
            wiped = straysFrom(p, d) ? nextDoor(d) : d;
            int hatfuls = leaveAt(p, wiped);
            shire.times[p]++;
            if (!thought) {
                shire.book.write(shire.day, BOOK_CALLED, p, wiped);
                if (hatfuls > 0) {
                    shire.book.write(shire.day, BOOK_LEFT, p, hatfuls);
                }
            }
            return hatfuls;
        }

        private void takeUp(int p, int f) {
            if (!shire.hasField(f) || !shire.hasPerson(p)) {
                return;
            }
            int room = ROOM_OF_A_SIZE * shire.sizes[p] - shire.loadOf(p);
            int taken = Math.min(asks(TAKES, p, f, NONE), Math.min(shire.lands[f], room));
            shire.lands[f] -= taken;
            shire.boots[p * FIELDS + f] += taken;
        }

        private boolean straysFrom(int p, int d) {
            int likely = asks(STRAYS, p, NONE, d);
            if (thought) {
                return likely >= STRAYS_IN_THOUGHT;
            }
            if (likely == 0) {
                return false;
            }
            shire.draws = afterDraw(shire.draws);
            return drawn(shire.draws, THOUSAND) < likely;
        }

        private int nextDoor(int d) {
            return shire.hasDoor(d + 1) ? d + 1 : 0;
        }

        private int leaveAt(int p, int d) {
            if (!shire.hasPerson(p) || !shire.hasDoor(d) || shire.frost == 1 || shire.stones[d] == 1) {
                return 0;
            }
            int sum = 0;
            for (int f = 0; f < FIELDS; f++) {
                int on = shire.boots[p * FIELDS + f];
                if (on > 0) {
                    int left = on * asks(LEAVES, p, f, d) / THOUSAND;
                    shire.boots[p * FIELDS + f] -= left;
                    shire.heaps[d * FIELDS + f] += left;
                    sum += left;
                }
            }
            shire.moved += sum;
            return sum;
        }

        /** One DAY; how many calls there were. */
        int passDay() {
            plans.skyOf(shire);
            int calls = 0;
            for (int i = 0; i < plans.callLines && i < LINES; i++) {
                if (plans.callDays[i] == shire.day) {
                    visit(plans.callPeople[i], plans.callRows[i], plans.callDoors[i]);
                    calls++;
                }
            }
            for (int p = 0; p < shire.personCount && shire.frost == 0; p++) {
                dropAtHome(p);
            }
            shire.day++;
            return calls;
        }

        private void dropAtHome(int p) {
            int home = shire.hasPerson(p) ? shire.homes[p] : NONE;
            if (!shire.hasDoor(home)) {
                return;
            }
            int sum = 0;
            for (int f = 0; f < FIELDS; f++) {
                int half = shire.boots[p * FIELDS + f] / 2;
                shire.boots[p * FIELDS + f] -= half;
                if (shire.stones[home] == 1) {
                    shire.returnLand(f, half);
                } else {
                    shire.heaps[home * FIELDS + f] += half;
                }
                sum += half;
            }
            if (sum > 0 && !thought) {
                shire.book.write(shire.day, BOOK_FELL, p, sum);
            }
        }

        void sweep(int d) {
            if (!shire.hasDoor(d)) {
                return;
            }
            int sum = shire.acresOf(d);
            for (int f = 0; f < FIELDS; f++) {
                shire.returnLand(f, shire.heaps[d * FIELDS + f]);
                shire.heaps[d * FIELDS + f] = 0;
            }
            shire.book.write(shire.day, BOOK_SWEPT, d, sum);
        }
    }

    /** The law, each line as tokens in the order in which they are reckoned: operands first, then what joins them. */
    private static final class Law {
        int lines;
        int length;
        final int[] words = new int[LINES];
        final int[] froms = new int[LINES];
        final int[] whens = new int[LINES];
        final int[] ends = new int[LINES];
        final int[] code = new int[TAPE_BYTES];
        final int[] stack = new int[STACK];

        void become(Law other) {
            lines = other.lines;
            length = other.length;
            System.arraycopy(other.words, 0, words, 0, LINES);
            System.arraycopy(other.froms, 0, froms, 0, LINES);
            System.arraycopy(other.whens, 0, whens, 0, LINES);
            System.arraycopy(other.ends, 0, ends, 0, LINES);
            System.arraycopy(other.code, 0, code, 0, TAPE_BYTES);
        }

        void clear() {
            lines = 0;
            length = 0;
        }

        void emit(int token) {
            if (length < TAPE_BYTES) {
                code[length] = token;
                length++;
            }
        }

        int answer(int word, int[] facts) {
            for (int i = 0; i < lines && i < LINES; i++) {
                if (words[i] == word
                        && (whens[i] == ends[i] || reckon(whens[i], ends[i], facts) != 0)) {
                    return reckon(froms[i], whens[i], facts);
                }
            }
            if (word == TAKES) {
                return facts[SIZE] + facts[WET];
            }
            return word == LEAVES ? LEAVES_UNTOLD : 0;
        }

        private int reckon(int from, int to, int[] facts) {
            int top = 0;
            for (int i = from; i >= 0 && i < to && i < TAPE_BYTES; i++) {
                int token = code[i];
                if (token == NOT) {
                    if (top > 0) {
                        stack[top - 1] = 1 - stack[top - 1];
                    }
                } else if (token >= 0 && token < WORD + FACTS) {
                    if (top < STACK) {
                        stack[top] = token < WORD ? token : facts[token - WORD];
                        top++;
                    }
                } else if (top > 1) {
                    top--;
                    stack[top - 1] = joined(token, stack[top - 1], stack[top]);
                }
            }
            return top > 0 ? stack[top - 1] : 0;
        }

        private static int joined(int token, int a, int b) {
            switch (token) {
                case MORE:
                    return a + b;
                case LESS:
                    return a - b;
                case FOLD:
                    return a * b;
                case PART:
                    return b == 0 ? 0 : a / b;
                case BELOW:
                    return a < b ? 1 : 0;
                case LIKE:
                    return a == b ? 1 : 0;
                case ABOVE:
                    return a > b ? 1 : 0;
                case AND:
                    return a & b;
                case OR:
                    return a | b;
                default:
                    return 0;
            }
        }
    }

    /** What CALLS, SKY and WAYS tell. */
    private static final class Plans {
        int callLines;
        int skyLines;
        int wayLines;
        final int[] callDays = new int[LINES];
        final int[] callPeople = new int[LINES];
        final int[] callRows = new int[LINES];
        final int[] callDoors = new int[LINES];
        final int[] skyDays = new int[LINES];
        final int[] skies = new int[LINES];
        final int[] ways = new int[DOORS * DOORS];
        final int[] near = new int[DOORS];
        final boolean[] reached = new boolean[DOORS];

        void become(Plans other) {
            becomeCalls(other);
            becomeSky(other);
            becomeWays(other);
        }

        void becomeCalls(Plans other) {
            callLines = other.callLines;
            System.arraycopy(other.callDays, 0, callDays, 0, LINES);
            System.arraycopy(other.callPeople, 0, callPeople, 0, LINES);
            System.arraycopy(other.callRows, 0, callRows, 0, LINES);
            System.arraycopy(other.callDoors, 0, callDoors, 0, LINES);
        }

        void becomeSky(Plans other) {
            skyLines = other.skyLines;
            System.arraycopy(other.skyDays, 0, skyDays, 0, LINES);
            System.arraycopy(other.skies, 0, skies, 0, LINES);
        }

        void becomeWays(Plans other) {
            wayLines = other.wayLines;
            System.arraycopy(other.ways, 0, ways, 0, DOORS * DOORS);
        }

        void clear() {
            callLines = 0;
            skyLines = 0;
            wayLines = 0;
            for (int i = 0; i < DOORS * DOORS; i++) {
                ways[i] = 0;
            }
        }

        void skyOf(Shire shire) {
            for (int i = 0; i < skyLines && i < LINES; i++) {
                if (skyDays[i] == shire.day) {
                    if (skies[i] <= MOST_WET) {
                        shire.wet = skies[i];
                    } else {
                        shire.frost = skies[i] == SKY_FROST ? 1 : 0;
                    }
                }
            }
        }

        void addWay(int a, int b, int length) {
            if (!within(a, 0, DOORS - 1) || !within(b, 0, DOORS - 1)) {
                return;
            }
            int was = ways[a * DOORS + b];
            if (was == 0 || length < was) {
                ways[a * DOORS + b] = length;
                ways[b * DOORS + a] = length;
            }
        }

        int wayBetween(int a, int b) {
            if (!within(a, 0, DOORS - 1) || !within(b, 0, DOORS - 1)) {
                return NONE;
            }
            int way = ways[a * DOORS + b];
            return way == 0 ? NONE : way;
        }

        int leastSum(int doors) {
            return doors == 0 ? 0 : spread(0, doors, false);
        }

        int apart(int a, int b, int doors) {
            spread(a, doors, true);
            return within(b, 0, DOORS - 1) && reached[b] ? near[b] : NONE;
        }

        /** The tree of all doors and the shortest ways grow alike, but for what lies behind a door counting or not. */
        private int spread(int from, int doors, boolean allTheWay) {
            for (int d = 0; d < DOORS; d++) {
                near[d] = d == from ? 0 : FAR;
                reached[d] = false;
            }
            int sum = 0;
            for (int step = 0; step < doors; step++) {
                int d = nearest(doors);
                if (d == NONE) {
                    return NONE;
                }
                reached[d] = true;
                sum += near[d];
                for (int next = 0; next < doors && next < DOORS; next++) {
                    int way = ways[d * DOORS + next];
                    if (way > 0 && !reached[next]) {
                        near[next] = Math.min(near[next], allTheWay ? near[d] + way : way);
                    }
                }
            }
            return sum;
        }

        private int nearest(int doors) {
            int best = NONE;
            int least = FAR;
            for (int d = 0; d < doors && d < DOORS; d++) {
                if (!reached[d] && near[d] < least) {
                    least = near[d];
                    best = d;
                }
            }
            return best;
        }
    }

    /** The tape, and how a text is made of it: drafts take what is read, so that a fault spoils nothing. */
    private static final class Reader {
        final Shire shire;
        final Law law = new Law();
        final Plans plans = new Plans();
        final int[] tape = new int[TAPE_BYTES];
        final int[] tokens = new int[TAPE_BYTES + 1];
        final int[] places = new int[TAPE_BYTES + 1];
        final int[] waiting = new int[STACK];
        int size;
        int tokenCount;
        int at;
        int now;
        int waits;
        int opened;
        int faultKind;
        int faultPlace = NONE;

        Reader(Shire shire) {
            this.shire = shire;
        }

        void take(int number) {
            for (int shift = 24; shift >= 0 && size < TAPE_BYTES; shift -= 8) {
                tape[size] = number >>> shift & 255;
                size++;
            }
        }

        /** How many lines text k has by the tape; NONE if there is no such text, or it has a fault. */
        int read(int k) {
            faultKind = 0;
            faultPlace = NONE;
            findTokens();
            size = 0;
            if (k < TEXT_LAW || k > TEXT_WAYS) {
                return NONE;
            }
            law.clear();
            plans.clear();
            int n = 0;
            for (; n <= LINES && faultKind == 0 && !is(TEXT_END); n++) {
                if (k == TEXT_LAW) {
                    lawLine(n);
                } else if (k == TEXT_CALLS) {
                    callLine(n);
                } else if (k == TEXT_SKY) {
                    skyLine(n);
                } else {
                    wayLine(n);
                }
            }
            return faultKind == 0 ? n : NONE;
        }

        private void findTokens() {
            tokenCount = 0;
            int end = 0;
            for (int i = 0; i < size && i < TAPE_BYTES; i++) {
                if (i >= end) {
                    end = i + 1;
                    if (isLetter(tape[i])) {
                        end = endOfLetters(i);
                        addToken(wordFrom(i, end), i);
                    } else if (isDigit(tape[i])) {
                        end = endOfDigits(i);
                        addToken(end - i <= DIGITS ? numberFrom(i, end) : NO_TOKEN, i);
                    } else if (tape[i] != ' ' && tape[i] != '\n') {
                        addToken(SIGN + tape[i], i);
                    }
                }
            }
            addToken(TEXT_END, size);
            at = 0;
            now = tokens[0];
        }

        private void addToken(int token, int place) {
            if (tokenCount <= TAPE_BYTES) {
                tokens[tokenCount] = token;
                places[tokenCount] = place;
                tokenCount++;
            }
        }

        private static boolean isLetter(int c) {
            return c >= 'a' && c <= 'z' || c >= 'A' && c <= 'Z';
        }

        private static boolean isDigit(int c) {
            return c >= '0' && c <= '9';
        }

        private int endOfLetters(int from) {
            int end = from;
            while (end < size && end < TAPE_BYTES && isLetter(tape[end])) {
                end++;
            }
            return end;
        }

        private int endOfDigits(int from) {
            int end = from;
            while (end < size && end < TAPE_BYTES && isDigit(tape[end])) {
                end++;
            }
            return end;
        }

        private int numberFrom(int from, int end) {
            int number = 0;
            for (int i = from; i < end && i < TAPE_BYTES; i++) {
                number = number * 10 + tape[i] - '0';
            }
            return number;
        }

        private int wordFrom(int from, int end) {
            int word = 0;
            int start = 0;
            for (int i = 0; i <= WORDS.length(); i++) {
                if (i == WORDS.length() || WORDS.charAt(i) == ' ') {
                    if (i - start == end - from && standsAt(start, from, end)) {
                        return WORD + word;
                    }
                    word++;
                    start = i + 1;
                }
            }
            return NO_TOKEN;
        }

        private boolean standsAt(int start, int from, int end) {
            for (int i = from; i < end && i < TAPE_BYTES; i++) {
                int there = start + i - from;
                if (there >= WORDS.length() || WORDS.charAt(there) != tape[i]) {
                    return false;
                }
            }
            return true;
        }

        /** Nothing is anything behind a fault, so that all reading runs out by itself. */
        private boolean is(int token) {
            return faultKind == 0 && now == token;
        }

        private boolean isNumber() {
            return faultKind == 0 && now < WORD;
        }

        private void step() {
            if (at < tokenCount - 1 && at < TAPE_BYTES) {
                at++;
                now = tokens[at];
            }
        }

        private void blame(int kind) {
            if (faultKind == 0) {
                faultKind = kind;
                faultPlace = at <= TAPE_BYTES ? places[at] : NONE;
            }
        }

        private void need(int token) {
            if (is(token)) {
                step();
            } else {
                blame(CANT_STAND);
            }
        }

        private int numberWithin(int least, int most) {
            int number = now;
            if (!isNumber()) {
                blame(CANT_STAND);
                return 0;
            }
            if (number < least || number > most) {
                blame(BEYOND);
                return 0;
            }
            step();
            return number;
        }

        /** The word with which line n begins; only a line that begins well can be one too many. */
        private void beginLine(boolean fits, int n) {
            if (!fits) {
                blame(CANT_STAND);
            } else if (n >= LINES) {
                blame(TOO_MANY);
            } else {
                step();
            }
        }

        private void lawLine(int n) {
            int word = now;
            beginLine(word == TAKES || word == LEAVES || word == STRAYS, n);
            if (n < 0 || n >= LINES) {
                return;
            }
            law.words[n] = word;
            law.froms[n] = law.length;
            sum();
            law.whens[n] = law.length;
            if (is(WHEN)) {
                step();
                condition();
            }
            law.ends[n] = law.length;
            need(STOP);
            law.lines = n + 1;
        }

        /** A sum's sign is put behind what follows it. */
        private void sum() {
            int sign = NONE;
            for (int i = 0; i < TAPE_BYTES; i++) {
                product();
                if (sign != NONE) {
                    law.emit(sign);
                }
                if (!is(MORE) && !is(LESS)) {
                    return;
                }
                sign = now;
                step();
            }
        }

        private void product() {
            operand();
            for (int i = 0; i < TAPE_BYTES; i++) {
                if (is(FOLD)) {
                    step();
                    operand();
                    law.emit(FOLD);
                } else if (is(PART)) {
                    step();
                    law.emit(numberWithin(1, WORD - 1));
                    law.emit(PART);
                } else {
                    return;
                }
            }
        }

        private void operand() {
            if (faultKind == 0 && now < WORD + FACTS) {
                law.emit(now);
                step();
            } else {
                blame(CANT_STAND);
            }
        }

        /** What is open, or joins and awaits its right side, waits in a row of its own, not in calls within calls. */
        private void condition() {
            waits = 0;
            opened = 0;
            boolean more = true;
            for (int i = 0; i < TAPE_BYTES && more && faultKind == 0; i++) {
                if (is(NOT) || is(OPENS)) {
                    if (opened >= OPEN_AT_ONCE) {
                        blame(TOO_MANY);
                    }
                    opened++;
                    await();
                } else {
                    sum();
                    int sign = now;
                    if (!is(BELOW) && !is(LIKE) && !is(ABOVE)) {
                        blame(CANT_STAND);
                    }
                    step();
                    sum();
                    law.emit(sign);
                    more = closeAndJoin();
                }
            }
        }

        private void await() {
            if (waits < STACK) {
                waiting[waits] = now;
                waits++;
            }
            step();
        }

        /** Behind a comparison: whether another one must follow. */
        private boolean closeAndJoin() {
            for (int i = 0; i < OPEN_AT_ONCE && is(CLOSES); i++) {
                settle(OR);
                if (waits == 0) {
                    return false;
                }
                waits--;
                opened--;
                step();
            }
            if (is(AND) || is(OR)) {
                settle(now);
                await();
                return true;
            }
            settle(OR);
            if (waits > 0) {
                blame(CANT_STAND);
            }
            return false;
        }

        /** The words count up by how tightly they bind, or, and, not; a bracket holds all that waits ahead of it. */
        private void settle(int loosest) {
            for (int i = 0; i < STACK && waits > 0 && waits <= STACK; i++) {
                int word = waiting[waits - 1];
                if (word < loosest || word > NOT) {
                    return;
                }
                if (word == NOT) {
                    opened--;
                }
                law.emit(word);
                waits--;
            }
        }

        private void callLine(int n) {
            beginLine(is(ON), n);
            int day = numberWithin(0, LAST_TOLD_DAY);
            need(PERSON);
            int who = numberWithin(0, shire.personCount - 1);
            need(BY);
            int path = fieldRow();
            need(TO);
            int where = numberWithin(0, shire.doorCount - 1);
            need(STOP);
            if (n >= 0 && n < LINES) {
                plans.callDays[n] = day;
                plans.callPeople[n] = who;
                plans.callRows[n] = path;
                plans.callDoors[n] = where;
                plans.callLines = n + 1;
            }
        }

        private int fieldRow() {
            int path = 10 + numberWithin(0, shire.fieldCount - 1);
            for (int i = 1; i <= ROW_FIELDS && isNumber(); i++) {
                if (i == ROW_FIELDS && now < shire.fieldCount) {
                    blame(TOO_MANY);
                } else {
                    path = path * 10 + numberWithin(0, shire.fieldCount - 1);
                }
            }
            return path;
        }

        private void skyLine(int n) {
            beginLine(is(ON), n);
            int day = numberWithin(0, LAST_TOLD_DAY);
            int sky = SKY_THAW;
            if (is(WORD + WET)) {
                step();
                sky = numberWithin(0, MOST_WET);
            } else if (is(WORD + FROST)) {
                step();
                sky = SKY_FROST;
            } else {
                need(THAW);
            }
            need(STOP);
            if (n >= 0 && n < LINES) {
                plans.skyDays[n] = day;
                plans.skies[n] = sky;
                plans.skyLines = n + 1;
            }
        }

        private void wayLine(int n) {
            beginLine(is(DOOR), n);
            int one = numberWithin(0, shire.doorCount - 1);
            need(DOOR);
            if (is(one)) {
                blame(BEYOND);
            }
            int other = numberWithin(0, shire.doorCount - 1);
            int length = numberWithin(1, MOST_WAY);
            need(STOP);
            if (faultKind == 0) {
                plans.addWay(one, other, length);
                plans.wayLines = n + 1;
            }
        }
    }

    /** Up to so many pairs, in the order told. */
    private static final class Told {
        int count;
        final int[] ones;
        final int[] twos;

        Told(int most) {
            ones = new int[Math.max(0, most)];
            twos = new int[Math.max(0, most)];
        }

        int add(int one, int two) {
            if (count >= ones.length || count >= twos.length) {
                return NONE;
            }
            ones[count] = one;
            twos[count] = two;
            count++;
            return count;
        }

        int clear() {
            count = 0;
            return 0;
        }

        void become(Told other) {
            count = Math.min(other.count, ones.length);
            for (int i = 0; i < count; i++) {
                ones[i] = other.ones[i];
                twos[i] = other.twos[i];
            }
        }
    }

    /** What is told for thought, and what follows from it. */
    private static final class Thoughts {
        final int[] sums = new int[CLAYS];
        final int[] gardens = new int[GARDENS];
        final Told wears = new Told(WEARS);
        final Told callers = new Told(CALLERS);
        final Told worths = new Told(FAIR_DAYS);
        final Told offers = new Told(OFFERS);
        final Told worns = new Told(WORN);
        final int[] given = new int[MOST_SUM + 1];
        final int[] free = new int[SCRAPERS];
        final int[] best = new int[FAIR_DAYS];
        final int[] longs = new int[WORN];
        final int[] ways = new int[WORN];

        Thoughts() {
            for (int i = 0; i < GARDENS; i++) {
                gardens[i] = i;
            }
        }

        void become(Thoughts other) {
            System.arraycopy(other.sums, 0, sums, 0, CLAYS);
            System.arraycopy(other.gardens, 0, gardens, 0, GARDENS);
            wears.become(other.wears);
            callers.become(other.callers);
            worths.become(other.worths);
            offers.become(other.offers);
            worns.become(other.worns);
        }

        int waysToGive(int kind, Shire shire) {
            if (kind < 0 || kind >= CLAYS) {
                return NONE;
            }
            int sum = Math.max(0, Math.min(MOST_SUM, sums[kind]));
            for (int s = 0; s <= sum; s++) {
                given[s] = s == 0 ? 1 : 0;
            }
            for (int f = 0; f < shire.fieldCount && f < FIELDS; f++) {
                if (shire.clays[f] == kind) {
                    giveOneMore(sum, shire.lands[f]);
                }
            }
            return given[sum];
        }

        /** From the top down, so that what lies below is still without this field. */
        private void giveOneMore(int sum, int land) {
            for (int s = sum; s >= 0; s--) {
                long all = 0;
                for (int from = Math.max(0, s - land); from <= s; from++) {
                    all += given[from];
                }
                given[s] = (int) (all % PRIME);
            }
        }

        /** Each ring takes one change fewer than it has gardens. */
        int putBack(boolean swaps) {
            int seen = 0;
            for (int i = 0; i < GARDENS; i++) {
                seen |= 1 << gardens[i];
            }
            if (seen != (1 << GARDENS) - 1) {
                return NONE;
            }
            int changes = 0;
            int rings = 0;
            for (int i = 0; i < GARDENS; i++) {
                int others = ringFrom(i);
                if (others > 0) {
                    changes += others;
                    rings++;
                }
            }
            return swaps ? changes : rings;
        }

        /** How many others are in the ring of a garden; 0, too, if one of them is less, for each ring counts once. */
        private int ringFrom(int start) {
            int others = 0;
            int at = gardens[start];
            for (int i = 0; i < GARDENS && at > start && at < GARDENS; i++) {
                others++;
                at = gardens[at];
            }
            return at == start ? others : 0;
        }

        int nearestWear(int left, int right) {
            int nearest = NONE;
            int least = FAR;
            for (int i = 0; i < wears.count && i < WEARS; i++) {
                int far = Math.abs(wears.ones[i] - left) + Math.abs(wears.twos[i] - right);
                if (far < least) {
                    least = far;
                    nearest = i;
                }
            }
            return nearest;
        }

        int closeWears(int most) {
            int couples = 0;
            for (int i = 0; i < wears.count && i < WEARS; i++) {
                for (int j = 0; j < i; j++) {
                    int far = Math.abs(wears.ones[i] - wears.ones[j]) + Math.abs(wears.twos[i] - wears.twos[j]);
                    if (far <= most) {
                        couples++;
                    }
                }
            }
            return couples;
        }

        int standInLine(int scrapers, boolean waiting) {
            for (int s = 0; s < SCRAPERS; s++) {
                free[s] = 0;
            }
            int sum = 0;
            int done = 0;
            int served = 0;
            for (int n = 0; n < callers.count && n < CALLERS; n++) {
                int c = nextCaller(served);
                int s = freeFirst(scrapers);
                served |= 1 << c;
                int begins = Math.max(free[s], callers.ones[c]);
                sum += begins - callers.ones[c];
                free[s] = begins + callers.twos[c];
                done = Math.max(done, free[s]);
            }
            return waiting ? sum : done;
        }

        private int nextCaller(int served) {
            int next = 0;
            int least = FAR;
            for (int c = 0; c < callers.count && c < CALLERS; c++) {
                if ((served >> c & 1) == 0 && callers.ones[c] < least) {
                    least = callers.ones[c];
                    next = c;
                }
            }
            return next;
        }

        private int freeFirst(int scrapers) {
            int least = 0;
            for (int s = 1; s < scrapers && s < SCRAPERS; s++) {
                if (free[s] < free[least]) {
                    least = s;
                }
            }
            return least;
        }

        /** Best of a day is the most worth of calls of which that day's is the first. */
        int bestDays(int gap, boolean worth) {
            int most = NONE;
            int day = NONE;
            for (int i = Math.min(worths.count, FAIR_DAYS) - 1; i >= 0; i--) {
                int later = 0;
                for (int j = i + 1 + Math.max(0, gap); j < worths.count && j < FAIR_DAYS; j++) {
                    later = Math.max(later, best[j]);
                }
                best[i] = worths.ones[i] + later;
                if (best[i] >= most) {
                    most = best[i];
                    day = i;
                }
            }
            return worth ? Math.max(0, most) : day;
        }

        /** Who offers most but for one farmer; NONE if nobody does. */
        int mostOffering(int but) {
            int who = NONE;
            for (int f = 0; f < FARMERS; f++) {
                if (f != but && greatestOf(f) > greatestOf(who)) {
                    who = f;
                }
            }
            return who;
        }

        int greatestOf(int farmer) {
            int greatest = NONE;
            for (int i = 0; i < offers.count && i < OFFERS; i++) {
                if (offers.ones[i] == farmer) {
                    greatest = Math.max(greatest, offers.twos[i]);
                }
            }
            return greatest;
        }

        int longestRow(boolean length) {
            int longest = 0;
            int all = 1;
            for (int i = 0; i < worns.count && i < WORN; i++) {
                rowsEndingAt(i);
                if (longs[i] > longest) {
                    longest = longs[i];
                    all = ways[i];
                } else if (longs[i] == longest) {
                    all += ways[i];
                }
            }
            return length ? longest : all;
        }

        private void rowsEndingAt(int i) {
            if (i < 0 || i >= WORN) {
                return;
            }
            longs[i] = 1;
            ways[i] = 1;
            for (int j = 0; j < i; j++) {
                if (worns.ones[j] < worns.ones[i]) {
                    if (longs[j] + 1 > longs[i]) {
                        longs[i] = longs[j] + 1;
                        ways[i] = ways[j];
                    } else if (longs[j] + 1 == longs[i]) {
                        ways[i] += ways[j];
                    }
                }
            }
        }
    }

    /** The shires as they were; beyond six the oldest gives its place to the newest. */
    private static final class Past {
        int count;
        int next;
        final Shire[] shires = new Shire[KEPT];

        Past() {
            for (int i = 0; i < KEPT; i++) {
                shires[i] = new Shire();
            }
        }

        void keep(Shire shire) {
            Shire room = next >= 0 && next < KEPT ? shires[next] : null;
            if (room != null) {
                room.become(shire);
                next = (next + 1) % KEPT;
                count = Math.min(KEPT, count + 1);
            }
        }

        boolean bringBack(Shire shire) {
            int last = (next + KEPT - 1) % KEPT;
            Shire was = last >= 0 && last < KEPT ? shires[last] : null;
            if (count == 0 || was == null) {
                return false;
            }
            shire.become(was);
            next = last;
            count--;
            return true;
        }

        void forget() {
            count = 0;
        }
    }

    /** All that is and was told, at one time. */
    private static final class Image {
        boolean taken;
        final Shire shire = new Shire();
        final Law law = new Law();
        final Plans plans = new Plans();
        final Thoughts thoughts = new Thoughts();
    }
}
