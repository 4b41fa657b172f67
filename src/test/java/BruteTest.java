import java.util.Random;

/** Thoughts on random inputs, against answers that are found by trying everything. */
public final class BruteTest {
    private static final int NONE = ClayBoots.NONE;
    private static final Random RANDOM = new Random(20261118);

    private BruteTest() {
    }

    public static void main(String[] args) {
        for (int i = 0; i < 60; i++) {
            mix();
            back();
            line();
            fair();
            widow();
            wears();
            span();
            row();
            game();
        }
        Due.end();
    }

    private static int below(int n) {
        return RANDOM.nextInt(n);
    }

    private static void mix() {
        ClayBoots x = new ClayBoots();
        int[] clay = new int[6];
        int[] land = new int[6];
        int[] sums = new int[6];
        for (int f = 0; f < 6; f++) {
            clay[f] = below(4);
            land[f] = below(6);
            x.field(clay[f], land[f]);
        }
        for (int c = 0; c < 4; c++) {
            sums[c] = below(9);
            x.clay(c, sums[c]);
        }
        Due.is("24 all", x.mix(NONE), gifts(clay, land, sums, 0, NONE));
        for (int c = 0; c < 6; c++) {
            Due.is("24 clay " + c, x.mix(c), gifts(clay, land, sums, 0, c));
        }
    }

    private static long gifts(int[] clay, int[] land, int[] left, int f, int only) {
        if (f == clay.length) {
            for (int c = 0; c < left.length; c++) {
                if (left[c] != 0 && (only == NONE || only == c)) {
                    return 0;
                }
            }
            return 1;
        }
        if (only != NONE && clay[f] != only) {
            return gifts(clay, land, left, f + 1, only);
        }
        long ways = 0;
        for (int given = 0; given <= land[f]; given++) {
            left[clay[f]] -= given;
            ways += gifts(clay, land, left, f + 1, only);
            left[clay[f]] += given;
        }
        return ways;
    }

    private static void back() {
        ClayBoots x = new ClayBoots();
        int[] with = new int[8];
        for (int g = 0; g < 8; g++) {
            int other = below(g + 1);
            with[g] = with[other];
            with[other] = g;
        }
        for (int g = 0; g < 8; g++) {
            x.garden(g, with[g]);
        }
        int swaps = 0;
        int rings = 0;
        for (int g = 0; g < 8; g++) {
            rings += with[g] != g ? 1 : 0;
            while (with[g] != g) {
                int there = with[g];
                with[g] = with[there];
                with[there] = there;
                swaps++;
            }
        }
        Due.is("26 swaps", x.back(0), swaps);
        Due.is("26 rounds", x.back(1), rings);
    }

    /** Minute by minute: who is free takes whoever has stood longest. */
    private static void line() {
        ClayBoots x = new ClayBoots();
        int count = below(11);
        int[] come = new int[count];
        int[] stay = new int[count];
        for (int i = 0; i < count; i++) {
            come[i] = below(30);
            stay[i] = 1 + below(20);
            x.caller(come[i], stay[i]);
        }
        for (int s = 1; s <= 4; s++) {
            int[] busy = new int[s];
            boolean[] served = new boolean[count];
            int waiting = 0;
            int done = 0;
            for (int t = 0; t < 400; t++) {
                for (int scraper = 0; scraper < s; scraper++) {
                    busy[scraper] -= busy[scraper] > 0 ? 1 : 0;
                    int who = NONE;
                    for (int i = count - 1; i >= 0 && busy[scraper] == 0; i--) {
                        if (!served[i] && come[i] <= t && (who == NONE || come[i] <= come[who])) {
                            who = i;
                        }
                    }
                    if (who != NONE) {
                        served[who] = true;
                        busy[scraper] = stay[who];
                        waiting += t - come[who];
                        done = Math.max(done, t + stay[who]);
                    }
                }
            }
            Due.is("31 waiting of " + s, x.line(s, 0), waiting);
            Due.is("31 done of " + s, x.line(s, 1), done);
        }
    }

    private static void fair() {
        ClayBoots x = new ClayBoots();
        int count = 1 + below(10);
        int[] worth = new int[count];
        for (int i = 0; i < count; i++) {
            worth[i] = below(4);
            x.worth(worth[i]);
        }
        for (int g = 0; g < 10; g++) {
            int most = 0;
            int first = 0;
            for (int set = 1; set < 1 << count; set++) {
                int sum = 0;
                int last = NONE;
                boolean fits = true;
                for (int i = 0; i < count; i++) {
                    if ((set >> i & 1) == 1) {
                        fits &= last == NONE || i - last > g;
                        last = i;
                        sum += worth[i];
                    }
                }
                int day = Integer.numberOfTrailingZeros(set);
                if (fits && (sum > most || sum == most && day < first)) {
                    most = sum;
                    first = day;
                }
            }
            Due.is("33 worth", x.fair(g, 0), most);
            Due.is("33 first day", x.fair(g, 1), first);
        }
    }

    private static void widow() {
        ClayBoots x = new ClayBoots();
        int[] greatest = {NONE, NONE, NONE, NONE};
        int count = 1 + below(8);
        for (int i = 0; i < count; i++) {
            int farmer = below(4);
            int v = below(4);
            greatest[farmer] = Math.max(greatest[farmer], v);
            x.offer(farmer, v);
        }
        int who = 0;
        for (int f = 1; f < 4; f++) {
            who = greatest[f] > greatest[who] ? f : who;
        }
        int pays = 0;
        for (int f = 0; f < 4; f++) {
            pays = f == who ? pays : Math.max(pays, greatest[f]);
        }
        Due.is("35 who", x.widow(0), who);
        Due.is("35 pays", x.widow(1), pays);
    }

    private static void wears() {
        ClayBoots x = new ClayBoots();
        int count = below(11);
        int[][] wear = new int[count][2];
        for (int i = 0; i < count; i++) {
            wear[i][0] = below(12);
            wear[i][1] = below(12);
            x.wear(wear[i][0], wear[i][1]);
        }
        int left = below(12);
        int right = below(12);
        int nearest = NONE;
        for (int far = 198; far >= 0; far--) {
            for (int i = count - 1; i >= 0; i--) {
                nearest = apart(wear[i], left, right) == far ? i : nearest;
            }
        }
        Due.is("28 whose", x.whose(left, right), nearest);
        for (int d = 0; d <= 24; d++) {
            int couples = 0;
            for (int[] a : wear) {
                for (int[] b : wear) {
                    couples += a != b && apart(a, b[0], b[1]) <= d ? 1 : 0;
                }
            }
            Due.is("29 couples", x.couples(d), couples / 2);
        }
    }

    private static int apart(int[] wear, int left, int right) {
        return Math.abs(wear[0] - left) + Math.abs(wear[1] - right);
    }

    private static void span() {
        ClayBoots x = new ClayBoots();
        int doors = 2 + below(6);
        for (int d = 0; d < doors; d++) {
            x.door(false);
        }
        int count = below(11);
        int[][] way = new int[count][3];
        StringBuilder text = new StringBuilder();
        for (int[] w : way) {
            w[0] = below(doors);
            w[1] = (w[0] + 1 + below(doors - 1)) % doors;
            w[2] = 1 + below(20);
            text.append("door ").append(w[0]).append(" door ").append(w[1]).append(' ').append(w[2]).append(";");
        }
        Due.is("12 ways", Due.tell(x, 3, text.toString()), count);
        int least = NONE;
        for (int set = 0; set < 1 << count; set++) {
            int sum = 0;
            int[] near = new int[doors];
            for (int d = 0; d < doors; d++) {
                near[d] = d;
            }
            for (int i = 0; i < count; i++) {
                if ((set >> i & 1) == 1) {
                    sum += way[i][2];
                    int old = near[way[i][0]];
                    for (int d = 0; d < doors; d++) {
                        near[d] = near[d] == old ? near[way[i][1]] : near[d];
                    }
                }
            }
            boolean together = true;
            for (int d = 0; d < doors; d++) {
                together &= near[d] == near[0];
            }
            least = together && (least == NONE || sum < least) ? sum : least;
        }
        Due.is("36 span", x.span(NONE, 0), least);
        for (int a = 0; a < doors; a++) {
            for (int b = 0; b < doors; b++) {
                Due.is("36 apart", x.span(a, b), shortest(way, a, b, 0));
                Due.is("16 way", x.doorOf(a, 20 + b), direct(way, a, b));
            }
        }
    }

    private static int direct(int[][] way, int a, int b) {
        int least = NONE;
        for (int[] w : way) {
            if ((w[0] == a && w[1] == b || w[0] == b && w[1] == a) && (least == NONE || w[2] < least)) {
                least = w[2];
            }
        }
        return least;
    }

    private static int shortest(int[][] way, int a, int b, int been) {
        if (a == b) {
            return 0;
        }
        int least = NONE;
        for (int[] w : way) {
            for (int side = 0; side < 2; side++) {
                int next = w[1 - side];
                if (w[side] == a && (been >> next & 1) == 0) {
                    int rest = shortest(way, next, b, been | 1 << a);
                    if (rest != NONE && (least == NONE || rest + w[2] < least)) {
                        least = rest + w[2];
                    }
                }
            }
        }
        return least;
    }

    private static void row() {
        ClayBoots x = new ClayBoots();
        int count = 1 + below(12);
        int[] worn = new int[count];
        for (int i = 0; i < count; i++) {
            worn[i] = below(9);
            x.worn(worn[i]);
        }
        int longest = 0;
        int ways = 1;
        for (int set = 1; set < 1 << count; set++) {
            int last = NONE;
            boolean rises = true;
            for (int i = 0; i < count; i++) {
                if ((set >> i & 1) == 1) {
                    rises &= worn[i] > last;
                    last = worn[i];
                }
            }
            int length = Integer.bitCount(set);
            if (rises && length >= longest) {
                ways = length == longest ? ways + 1 : 1;
                longest = length;
            }
        }
        Due.is("40 row", x.row(0), longest);
        Due.is("40 ways", x.row(1), ways);
    }

    private static void game() {
        ClayBoots x = new ClayBoots();
        int doors = 1 + below(3);
        x.field(0, 9999);
        for (int d = 0; d < doors; d++) {
            x.door(false);
        }
        x.person(0, 1, 0);
        Due.tell(x, 0, "takes heel;leaves 1000;");
        int[] acres = new int[3];
        for (int d = 0; d < doors; d++) {
            acres[d] = below(10);
            x.set(2, 0, acres[d]);
            x.call(0, 10, d);
        }
        boolean[] wins = new boolean[1000];
        int door = NONE;
        int taken = NONE;
        for (int s = 1; s <= acres[0] + acres[1] * 10 + acres[2] * 100; s++) {
            int unit = 1;
            door = NONE;
            taken = NONE;
            for (int d = 0; d < 3; d++) {
                for (int t = 1; t <= 3 && t <= s / unit % 10; t++) {
                    if (!wins[s - t * unit]) {
                        taken = door == NONE ? t : taken;
                        door = door == NONE ? d : door;
                        wins[s] = true;
                    }
                }
                unit *= 10;
            }
        }
        Due.is("41 door", x.game(0), door);
        Due.is("41 how many", x.game(1), taken);
    }
}
