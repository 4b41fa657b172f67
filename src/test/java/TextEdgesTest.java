import java.util.ArrayList;
import java.util.List;

/** The edges that Terms 2 and promises 10 to 13 name; each remark says which promise and which sentence it is for. */
public final class TextEdgesTest {
    private static final int NONE = ClayBoots.NONE;
    private static final int LEAST = Integer.MIN_VALUE;
    private static final int MOST = Integer.MAX_VALUE;

    /** A line of each kind in its longest form, token by token. */
    private static final String[] LAW = {"takes", "size", "*", "2", "/", "3", "+", "1", "-", "wet", "when", "1", "=", "1", "or",
        "heel", "<", "9", "and", "not", "(", "day", ">", "0", ")", ";"};
    private static final String[] CALLS = {"on", "999", "person", "0", "by", "0", "1", "2", "0", "1", "2", "to", "1", ";"};
    private static final String[] WET = {"on", "0", "wet", "9", ";"};
    private static final String[] FROST = {"on", "0", "frost", ";"};
    private static final String[] THAW = {"on", "0", "thaw", ";"};
    private static final String[] WAYS = {"door", "0", "door", "2", "99", ";"};
    private static final String[] SHORT = {"takes 1;", "on 0person 0by 0to 0;", "on 0frost;", "door 0door 1 1;"};

    private TextEdgesTest() {
    }

    public static void main(String[] args) {
        feedToTheLast();
        feedTheHighestFirst();
        end();
        endCutsForGood();
        textEmptiesTheTape();
        textIsToldAnew();
        noSuchText();
        textStaysByAFault();
        textOfAllBytes();
        fault();
        latestFault();
        textsAreEmptyAtFirst();
        whatCantStandThere();
        everyTokenEverywhere();
        wrongTokens();
        whereItEnds();
        severalOfEach();
        keywords();
        numbers();
        signs();
        blanks();
        wraps();
        firstFaultByPlace();
        leastFaultAtOnePlace();
        partByNothing();
        beyondBounds();
        noneSuch();
        sameDoorAgain();
        seventeenthLine();
        seventhField();
        ninthOpen();
        firstLineThatIsSo();
        noLine();
        heldToBounds();
        wordsOfTakes();
        wordsOfLeaves();
        wordsOfStrays();
        loadAndLand();
        conditions();
        Due.end();
    }

    /** Three fields, three doors (the second of stone), two people. */
    private static ClayBoots shire() {
        return PromisesTest.shire();
    }

    /** What the latest fault is, and where, as one number: 1000 times the first and the second. */
    private static int faultOf(int k, String text) {
        ClayBoots x = shire();
        int lines = Due.tell(x, k, text);
        Due.is("12 NONE by a fault alone: " + text, lines == NONE, x.fault(0) != 0);
        int found = x.fault(0) == 0 ? x.fault(1) + 1 : 1000 * x.fault(0) + x.fault(1);
        Due.is("12 a sound law behind: " + text, Due.tell(x, 0, "takes 7 when not((((((( 1=1 )))))));takes 9;"), 2);
        Due.is("12 it tells behind: " + text, x.of(0, 20), 9);
        return found;
    }

    private static void sound(int k, String text) {
        Due.is("12 sound: " + text, faultOf(k, text), 0);
    }

    private static void fault(int k, String text, int kind, int place) {
        Due.is("13 fault: " + text, faultOf(k, text), 1000 * kind + place);
    }

    /** What is faulty where the mark ~ stands (which itself does not count). */
    private static void marked(int k, int kind, String text) {
        fault(k, text.replace("~", ""), kind, text.indexOf('~'));
    }

    /** Promise 10: "Twenty bytes come behind the TAPE, of each number the highest first: how many it has. NONE, and nothing comes, if there would be more than 400." */
    private static void feedToTheLast() {
        ClayBoots x = new ClayBoots();
        for (int i = 1; i <= 20; i++) {
            Due.is("10 how many", x.feed(0, 0, 0, 0, 0), 20 * i);
        }
        Due.is("10 none beyond 400", x.feed(0, 0, 0, 0, 0), NONE);
        Due.is("10 all 400 are there", x.end(400), true);
        Due.is("10 no 401st is there", x.end(401), false);
        x.end(381);
        Due.is("10 401 would be one too many", x.feed(0, 0, 0, 0, 0), NONE);
        Due.is("10 381 are there still", x.end(381), true);
        Due.is("10 and no 382nd", x.end(382), false);
        x.end(380);
        Due.is("10 400 can be", x.feed(0, 0, 0, 0, 0), 400);
        Alike.refused("10 a full tape", Shires::full, y -> y.feed(1, 2, 3, 4, 5), NONE);
        Alike.refused("10 a tape of 381", () -> {
            ClayBoots y = Shires.full();
            y.end(381);
            return y;
        }, y -> y.feed(1, 2, 3, 4, 5), NONE);
    }

    /** Promise 10: "Twenty bytes come behind the TAPE, of each number the highest first" */
    private static void feedTheHighestFirst() {
        ClayBoots x = shire();
        // "take" "s 98" "76/1" "00  " "   ;", of which each number has four other bytes.
        x.feed(0x74616b65, 0x73203938, 0x37362f31, 0x30302020, 0x2020203b);
        Due.is("10 a line", x.text(0), 1);
        Due.is("10 as it stands", x.of(0, 20), 98);
        x.feed(-1, LEAST, -256, MOST, 255);
        Due.is("10 below 0, too, is four bytes", x.text(0), NONE);
        Due.is("10 the first byte is 255", x.fault(1), 0);
        x.feed(0x2020200a, 0x20202020, 0x20202020, 0x20202020, 0x20202020);
        x.feed(0x20202020, 0x20202020, 0x20202020, 0x20202020, 0x20202080);
        Due.is("10 a byte of 128", x.text(0), NONE);
        Due.is("10 is the fortieth", x.fault(1), 39);
    }

    /** Promise 11: "The TAPE has its first n bytes alone: true; false, changing nothing, if it has not so many, or n is below 0." */
    private static void end() {
        for (int n : new int[] {LEAST, -1, 23, 400, 401, MOST}) {
            Alike.refused("11 end(" + n + ")", Shires::rich, x -> x.end(n) ? 1 : 0, 0);
        }
        Alike.refused("11 end(401)", Shires::full, x -> x.end(401) ? 1 : 0, 0);
        Alike.unchanged("11 as many as it has", Shires::rich, x -> x.end(22) ? 1 : 0);
        ClayBoots x = Shires.rich();
        Due.is("11 as many as it has", x.end(22), true);
        Due.is("11 one less", x.end(21), true);
        Due.is("11 not so many any more", x.end(22), false);
        Due.is("11 none", x.end(0), true);
        Due.is("11 not one any more", x.end(1), false);
        Due.is("11 none of none", x.end(0), true);
        Due.is("11 below none", x.end(-1), false);
    }

    /** Promise 11: "The TAPE has its first n bytes alone" */
    private static void endCutsForGood() {
        ClayBoots x = shire();
        Due.put(x, "takes 1;takes 2;");
        x.end(8);
        Due.is("11 what stood behind is not read", x.text(0), 1);
        Due.put(x, "takes 12");
        x.end(7);
        x.feed(0x3b202020, 0x20202020, 0x20202020, 0x20202020, 0x20202020);
        Due.is("11 what comes comes behind the n-th", x.text(0), 1);
        Due.is("11 the number was cut", x.of(0, 20), 1);
        Due.put(x, "takes");
        x.end(0);
        Due.is("11 cut to nothing it is the empty text", x.text(0), 0);
        // Had a byte more been read, these would be faulty where the word and the number begin.
        Due.put(x, "takesx");
        x.end(5);
        Due.is("11 a word is cut", x.text(0) + x.fault(1), NONE + 5);
        Due.put(x, "takes 12345");
        x.end(10);
        Due.is("11 a number is cut", x.text(0) + x.fault(1), NONE + 10);
    }

    /** Promise 12: "The TAPE, empty then, is TEXT k: how many lines." */
    private static void textEmptiesTheTape() {
        for (int k = 0; k < 4; k++) {
            ClayBoots x = shire();
            Due.is("12 lines", Due.tell(x, k, SHORT[k]), 1);
            Due.is("12 empty then", x.end(1), false);
            Due.is("12 looked at", x.look(10 + k), 1);
            Due.is("12 an empty tape is a text of no lines", x.text(k), 0);
            Due.is("12 looked at then", x.look(10 + k), 0);
            Due.tell(x, k, "?");
            Due.is("12 empty by a fault, too", x.end(1), false);
        }
    }

    /** Promise 12: "The TAPE, empty then, is TEXT k: how many lines." Terms 2: "16 lines of each at most." */
    private static void textIsToldAnew() {
        for (int k = 0; k < 4; k++) {
            ClayBoots x = shire();
            Due.is("12 sixteen lines", Due.tell(x, k, SHORT[k].repeat(16)), 16);
            Due.is("12 sixteen are there", x.look(10 + k), 16);
            Due.is("12 two lines", Due.tell(x, k, SHORT[k].repeat(2)), 2);
            Due.is("12 two are there: none is left of the others", x.look(10 + k), 2);
            for (int other = 0; other < 4; other++) {
                Due.is("12 the other texts are as they were", x.look(10 + other), other == k ? 2 : 0);
            }
        }
        ClayBoots x = shire();
        for (int again = 0; again < 4; again++) {
            Due.tell(x, 0, "takes 1" + "+1".repeat(50 + again) + ";");
            Due.is("12 a long one again", x.of(0, 20), 51 + again);
        }
        Due.tell(x, 0, "takes 1 when 1=2;takes 50;takes 51;");
        Due.tell(x, 0, "takes 2 when 1=2;");
        Due.is("12 a line of the law ahead is no more", x.of(0, 20), 3);
        Due.tell(x, 1, SHORT[1].repeat(16));
        Due.tell(x, 1, SHORT[1]);
        Due.is("12 one call alone", x.days(1), 1);
        Due.tell(x, 3, "door 0 door 1 5;");
        Due.tell(x, 3, "door 0 door 2 5;");
        Due.is("12 a way of the text ahead is no more", x.doorOf(0, 21), NONE);
        Due.tell(x, 2, "on 1 wet 7;");
        Due.tell(x, 2, "on 2 wet 8;");
        x.days(1);
        Due.is("12 nor its sky", x.look(3), 0);
    }

    /** Promise 12: "NONE: no such one (fault() tells 0), or a FAULT (it stays as it was)." */
    private static void noSuchText() {
        for (int k : new int[] {LEAST, -1, 4, MOST}) {
            ClayBoots x = Shires.rich();
            Due.is("13 a fault ahead", x.fault(0), 2);
            Due.is("12 no such one", x.text(k), NONE);
            Due.is("12 fault() tells 0", x.fault(0), 0);
            Due.is("12 of no place", x.fault(1), NONE);
            Due.is("12 the texts are as they were", x.look(10) * 1000 + x.look(11) * 100 + x.look(12) * 10 + x.look(13), 4222);
            Due.is("12 what can be undone is as it was", x.look(14), 4);
            Due.is("12 the tape is empty then", x.feed(0, 0, 0, 0, 0), 20);
        }
        ClayBoots x = shire();
        Due.is("12 the first text", x.text(0), 0);
        Due.is("12 the last text", x.text(3), 0);
    }

    /** Promise 12: "or a FAULT (it stays as it was)." */
    private static void textStaysByAFault() {
        for (int k = 0; k < 4; k++) {
            int text = k;
            for (String wrong : new String[] {"?", SHORT[k] + "?", SHORT[k].repeat(17)}) {
                Alike.unchanged("12 text " + k + " with a fault", () -> {
                    ClayBoots x = Shires.rich();
                    x.end(0);
                    x.text(NONE);
                    return x;
                }, x -> {
                    Due.is("12 a fault", Due.tell(x, text, wrong), NONE);
                    return x.text(NONE);
                });
            }
        }
    }

    /** Promise 12: "The TAPE, empty then, is TEXT k" Promise 10: "NONE, and nothing comes, if there would be more than 400." A text of all 400 bytes. */
    private static void textOfAllBytes() {
        ClayBoots x = shire();
        Due.is("12 400 bytes", Due.tell(x, 0, "takes 1" + "+1".repeat(49) + " ".repeat(294) + ";"), 1);
        Due.is("12 to the last one", x.of(0, 20), 50);
        Due.is("12 400 blanks", Due.tell(x, 0, " ".repeat(400)), 0);
        fault(0, "takes 1" + " ".repeat(393), 1, 400);
        fault(0, " ".repeat(399) + "?", 1, 399);
        fault(0, "(".repeat(400), 1, 0);
        fault(0, "takes 1 when " + "(".repeat(387), 3, 21);
        fault(0, "takes 1 when 1=1" + ")".repeat(384), 1, 16);
        fault(0, "takes " + "1".repeat(394), 1, 6);
        fault(0, "t".repeat(400), 1, 0);
        fault(0, "takes " + "1*".repeat(197), 1, 400);
        fault(0, "takes 1 when 1=1 " + "or 1=1 and 2=2 ".repeat(25), 1, 392);
    }

    /** Promise 13: "Of the latest text(): what 0 the FAULT (0 without one), 1 its place (NONE)." and "NONE for another what." */
    private static void fault() {
        ClayBoots x = shire();
        Due.is("13 without a text", x.fault(0), 0);
        Due.is("13 no place without a text", x.fault(1), NONE);
        Due.tell(x, 0, "?");
        Due.is("13 the fault", x.fault(0), 1);
        Due.is("13 at the first place", x.fault(1), 0);
        for (int what : new int[] {LEAST, -1, 2, MOST}) {
            Due.is("13 what " + what, x.fault(what), NONE);
        }
        Due.is("13 the fault is there still", x.fault(0), 1);
    }

    /** Promise 13: "Of the latest text()" */
    private static void latestFault() {
        ClayBoots x = shire();
        Due.tell(x, 0, "takes 1/0;");
        Due.is("13 at 8", x.fault(0) * 1000 + x.fault(1), 2008);
        Due.tell(x, 3, "door 0 door 0 1;");
        Due.is("13 of another text at 12", x.fault(0) * 1000 + x.fault(1), 2012);
        x.call(0, 10, 0);
        x.undo();
        x.image(true);
        x.image(false);
        Due.put(x, "takes");
        Due.is("13 as it was till text()", x.fault(0) * 1000 + x.fault(1), 2012);
        x.text(0);
        Due.is("13 then another", x.fault(0) * 1000 + x.fault(1), 1005);
        x.text(2);
        Due.is("13 without one", x.fault(0), 0);
        Due.is("13 without a place", x.fault(1), NONE);
    }

    /** Terms 2: "2. TEXTS (empty at first)." */
    private static void textsAreEmptyAtFirst() {
        ClayBoots x = new ClayBoots();
        for (int k = 0; k < 4; k++) {
            Due.is("T2 no lines", x.look(10 + k), 0);
        }
        for (int k = 0; k < 4; k++) {
            Due.is("T2 told empty", x.text(k), 0);
            Due.is("T2 without a fault", x.fault(0), 0);
        }
    }

    private static String joined(String[] tokens, int count) {
        StringBuilder b = new StringBuilder();
        for (int i = 0; i < count; i++) {
            b.append(tokens[i]).append(' ');
        }
        return b.toString();
    }

    private static final String[] NONES = {"?", "Takes", "takesx", "x", "12345", "00000", "\t", "\r", "\0", "\u00ff", "\u00a0", ",", "!", ":", "&"};

    /** Terms 2: "FAULTS, the first by its place, at one place the least: 1 what can't stand there (the end: the text's length)." */
    private static void whatCantStandThere() {
        String[][] lines = {LAW, CALLS, WET, FROST, THAW, WAYS};
        int[] kinds = {0, 1, 2, 2, 2, 3};
        for (int i = 0; i < lines.length; i++) {
            sound(kinds[i], joined(lines[i], lines[i].length));
            for (int at = 0; at <= lines[i].length; at++) {
                String ahead = joined(lines[i], at);
                for (String none : NONES) {
                    fault(kinds[i], ahead + none, 1, ahead.length());
                    fault(kinds[i], ahead + none + " 1/0", 1, ahead.length());
                }
            }
        }
    }

    private static final String[] WORDS = {"takes", "leaves", "strays", "when", "or", "and", "not", "size", "heel", "clay", "land", "load",
        "wet", "frost", "stone", "called", "day", "on", "person", "by", "to", "thaw", "door"};
    private static final String[] SIGNS = {";", "+", "-", "*", "/", "(", ")", "<", "=", ">"};
    private static final String LINE = " takes leaves strays ";
    private static final String UNIT = " 1 size heel clay land load wet frost stone called day ";
    private static final String CONDITION = UNIT + "not ( ";
    private static final String SUM = " * / + - ";
    private static final String JOIN = " or and ";

    /** Terms 2: "1 what can't stand there" Every token at every place of a line. */
    private static void everyTokenEverywhere() {
        everyToken(0, LAW, LINE, UNIT, SUM + "when ; ", UNIT, SUM + "when ; ", " 1 ", SUM + "when ; ", UNIT, SUM + "when ; ", UNIT,
            SUM + "when ; ", CONDITION, SUM + "< = > ", UNIT, SUM + JOIN + "; ", CONDITION, SUM + "< = > ", UNIT, SUM + JOIN + "; ",
            CONDITION, CONDITION, CONDITION, SUM + "< = > ", UNIT, SUM + JOIN + ") ", JOIN + "; ", LINE);
        everyToken(1, CALLS, " on ", " 1 ", " person ", " 1 ", " by ", " 1 ", " 1 to ", " 1 to ", " 1 to ", " 1 to ", " 1 to ", " 1 to ",
            " 1 ", " ; ", " on ");
        everyToken(2, WET, " on ", " 1 ", " wet frost thaw ", " 1 ", " ; ", " on ");
        everyToken(2, FROST, " on ", " 1 ", " wet frost thaw ", " ; ", " on ");
        everyToken(2, THAW, " on ", " 1 ", " wet frost thaw ", " ; ", " on ");
        everyToken(3, WAYS, " door ", " 1 ", " door ", " 1 ", " 1 ", " ; ", " door ");
    }

    private static void everyToken(int k, String[] line, String... allowed) {
        Due.is("T2 a set for each place", allowed.length, line.length + 1);
        List<String> tokens = new ArrayList<>(List.of(WORDS));
        tokens.addAll(List.of(SIGNS));
        tokens.add("1");
        for (int at = 0; at < allowed.length; at++) {
            String ahead = joined(line, at);
            for (String token : tokens) {
                boolean blamed = faultOf(k, ahead + token) == 1000 + ahead.length();
                Due.is("T2 can stand there: " + ahead + token, !blamed, allowed[at].contains(" " + token + " "));
            }
        }
    }

    /** Terms 2: "1 what can't stand there" One token too many, one left out, one in another's place. */
    private static void wrongTokens() {
        marked(0, 1, "~;");
        marked(0, 1, "takes 1;~;");
        marked(0, 1, "takes ~;");
        marked(0, 1, "takes ~+1;");
        marked(0, 1, "takes ~-1;");
        marked(0, 1, "takes ~(1);");
        marked(0, 1, "takes 1+~;");
        marked(0, 1, "takes 1-~-1;");
        marked(0, 1, "takes 1*~;");
        marked(0, 1, "takes 1/~;");
        marked(0, 1, "takes 1/~wet;");
        marked(0, 1, "takes 1 ~2;");
        marked(0, 1, "takes wet ~wet;");
        marked(0, 1, "takes 1 ~takes 1;");
        marked(0, 1, "takes ~when 1=1;");
        marked(0, 1, "takes 1~=1;");
        marked(0, 1, "takes 1 when ~;");
        marked(0, 1, "takes 1 when 1~;");
        marked(0, 1, "takes 1 when 1<~;");
        marked(0, 1, "takes 1 when 1<~=2;");
        marked(0, 1, "takes 1 when 1=1~=1;");
        marked(0, 1, "takes 1 when 1=1 and~;");
        marked(0, 1, "takes 1 when 1=1 or~;");
        marked(0, 1, "takes 1 when 1=1 or ~or 1=1;");
        marked(0, 1, "takes 1 when ~and 1=1;");
        marked(0, 1, "takes 1 when not~;");
        marked(0, 1, "takes 1 when not 1~;");
        marked(0, 1, "takes 1 when 1=1 ~not 1=1;");
        marked(0, 1, "takes 1 when 1=~not 1;");
        marked(0, 1, "takes 1 when (~);");
        marked(0, 1, "takes 1 when (1~)=1;");
        marked(0, 1, "takes 1 when 1=~(1);");
        marked(0, 1, "takes 1 when (1=1~;");
        marked(0, 1, "takes 1 when (1=1 or 1=1~;");
        marked(0, 1, "takes 1 when 1=1~);");
        marked(0, 1, "takes 1 when (1=1)~);");
        marked(0, 1, "takes 1 when (1=1)~(1=1);");
        marked(0, 1, "takes 1 when (1=1)~=1;");
        marked(0, 1, "takes 1 when 1=1 ~when 1=1;");
        marked(1, 1, "on ~person 0 by 0 to 0;");
        marked(1, 1, "on 0 person ~by 0 to 0;");
        marked(1, 1, "on 0 person 0 by ~to 0;");
        marked(1, 1, "on 0 person 0 by 0 to ~;");
        marked(1, 1, "on 0 person 0 by 0~;");
        marked(1, 1, "on 0 person 0 by 0 to 0 ~0;");
        marked(1, 1, "on 0 ~0 person 0 by 0 to 0;");
        marked(1, 1, "on 0 person 0 ~0 by 0 to 0;");
        marked(1, 1, "~person 0 by 0 to 0;");
        marked(2, 1, "on ~wet 1;");
        marked(2, 1, "on 0 ~0 wet 1;");
        marked(2, 1, "on 0 wet ~;");
        marked(2, 1, "on 0 wet 1 ~1;");
        marked(2, 1, "on 0 frost ~1;");
        marked(2, 1, "on 0 thaw ~thaw;");
        marked(2, 1, "on 0 ~;");
        marked(2, 1, "~wet 1;");
        marked(3, 1, "door ~door 1 1;");
        marked(3, 1, "door 0 ~1 1;");
        marked(3, 1, "door 0 door ~;");
        marked(3, 1, "door 0 door 1~;");
        marked(3, 1, "door 0 door 1 1 ~1;");
        marked(3, 1, "~0 door 1 1;");
    }

    /** Terms 2: "1 what can't stand there (the end: the text's length)." */
    private static void whereItEnds() {
        String[][] lines = {LAW, CALLS, WET, FROST, THAW, WAYS};
        int[] kinds = {0, 1, 2, 2, 2, 3};
        for (int i = 0; i < lines.length; i++) {
            for (int at = 1; at < lines[i].length; at++) {
                String ahead = joined(lines[i], at);
                fault(kinds[i], ahead, 1, ahead.length());
                fault(kinds[i], ahead.trim(), 1, ahead.length() - 1);
                fault(kinds[i], ahead + "\n\n", 1, ahead.length() + 2);
            }
        }
    }

    /** Terms 2: "0 THE LAW = {(takes | leaves | strays) E [when B] ;}. B = A {or A}. A = C {and C}. C = E (< | = | >) E | not C | ( B ). E = T {(+ | -) T}. T = U {* U | / NUMBER}. U = NUMBER | size | heel | clay | land | load | wet | frost | stone | called | day." */
    private static void severalOfEach() {
        for (String word : new String[] {"takes", "leaves", "strays"}) {
            for (String fact : new String[] {"0", "size", "heel", "clay", "land", "load", "wet", "frost", "stone", "called", "day"}) {
                sound(0, word + " " + fact + ";");
                sound(0, word + " " + fact + "*" + fact + "/1 when " + fact + "=" + fact + ";");
            }
        }
        for (String and : new String[] {"and", "or"}) {
            String row = "takes 1 when 1=1";
            for (int n = 0; n < 40; n++) {
                sound(0, row + ";");
                row += " " + and + " 1=1";
            }
        }
        for (String sign : new String[] {"+", "-", "*", "/"}) {
            sound(0, "takes 1" + (sign + "1").repeat(190) + ";");
        }
        sound(0, "takes 1 when not not (not (1=1 or 1<2) and 2>1);");
        sound(0, "takes 1 when ((1=1) and (1=1)) or ((1=1));");
    }

    /** Terms 2: "TOKENS: letters as many as stand together are KEYWORDS (those told here for that text) or none;" */
    private static void keywords() {
        String[][] words = {
            {"takes", "leaves", "strays", "when", "or", "and", "not", "size", "heel", "clay", "land", "load", "stone", "called", "day"},
            {"on", "person", "by", "to"}, {"on", "wet", "frost", "thaw"}, {"door"}};
        for (int k = 0; k < 4; k++) {
            for (int other = 0; other < 4; other++) {
                for (String word : words[other]) {
                    boolean begins = k == 0 && other == 0 && (word.equals("takes") || word.equals("leaves") || word.equals("strays"))
                            || (k == 1 || k == 2) && word.equals("on") || k == 3 && word.equals("door");
                    fault(k, word + " ?", 1, begins ? word.length() + 1 : 0);
                }
            }
        }
        for (String none : new String[] {"take", "takess", "takestakes", "takeS", "TAKES", "akes", "t", "takesz", "takesa", "takesA", "takesZ"}) {
            fault(0, none + " 1;", 1, 0);
        }
        marked(0, 1, "takes ~sizes;");
        marked(0, 1, "takes ~siz;");
        marked(0, 1, "takes ~sizewhen 1=1;");
        marked(0, 1, "takes ~thaw;");
        marked(0, 1, "takes ~door;");
        marked(0, 1, "takes 1 when ~notnot 1=1;");
        marked(1, 1, "on 0 ~wet 1;");
        marked(2, 1, "on 0 ~person 0 by 0 to 0;");
        marked(2, 1, "on 0 ~frosty;");
        marked(3, 1, "door 0 ~doordoor 1 1;");
        sound(0, "takes1when1<2;takes size+heel;");
        sound(1, "on0person0by0 1 2to0;");
        sound(2, "on0wet1;on0frost;on0thaw;");
        sound(3, "door0door1 1;");
    }

    /** Terms 2: "digits as many as stand together NUMBERS of 1 to 4 digits or none;" */
    private static void numbers() {
        sound(0, "takes 0;");
        sound(0, "takes 0000;");
        sound(0, "takes 9999;");
        sound(0, "takes 1/0001;");
        marked(0, 1, "takes ~10000;");
        marked(0, 1, "takes ~00000;");
        marked(0, 1, "takes ~00001;");
        marked(0, 1, "takes 1/~00000;");
        marked(0, 1, "takes ~9999999999;");
        marked(0, 1, "takes ~4294967297;");
        marked(1, 1, "on ~00000 person 0 by 0 to 0;");
        marked(1, 1, "on 0 person ~00000 by 0 to 0;");
        marked(1, 1, "on 0 person 0 by ~00000 to 0;");
        marked(1, 1, "on 0 person 0 by 0 ~00000 to 0;");
        marked(1, 1, "on 0 person 0 by 0 to ~00000;");
        marked(2, 1, "on 0 wet ~00001;");
        marked(3, 1, "door ~00000 door 1 1;");
        marked(3, 1, "door 0 door ~00001 1;");
        marked(3, 1, "door 0 door 1 ~00001;");
        sound(1, "on 0999 person 0001 by 0002 to 0002;");
        sound(3, "door 0000 door 0001 0099;");
        ClayBoots x = shire();
        Due.tell(x, 0, "takes 9999/101;leaves 0009*0100;");
        Due.is("T2 9999 by 101", x.of(0, 20), 99);
        Due.is("T2 noughts ahead", x.tells(0, 0, 0, 0), 900);
    }

    /** Terms 2: "; + - * / ( ) < = > ." Each stands by itself, whatever stands next to it. */
    private static void signs() {
        sound(0, "takes 1+2-3*4/5 when(1<2)and(2=2)and(3>2);");
        for (char c = 0; c < 256; c++) {
            boolean blank = c == 32 || c == 10;
            boolean goesOn = c >= '0' && c <= '9';
            boolean sign = "+-*/;".indexOf(c) >= 0;
            String text = "takes 1" + c + "1 when 1=1;";
            if (c == ';') {
                fault(0, text, 1, 8);
            } else if (goesOn || sign) {
                sound(0, text);
            } else {
                fault(0, text, 1, blank ? 8 : 7);
            }
        }
    }

    /** Terms 2: "Blanks (32, 10) between." */
    private static void blanks() {
        sound(0, "\n \ntakes\n\n1 \n when\n1\n=\n1\n;\n \n");
        sound(0, " takes 1 ; takes 2 ; ");
        marked(0, 1, "takes 1 ~2 3;");
        marked(0, 1, "takes~\t1;");
        marked(0, 1, "takes~\r\n1;");
        marked(0, 1, "takes~\u000b1;");
        marked(0, 1, "~\ttakes 1;");
        marked(0, 1, "takes 1;~\t");
        marked(0, 1, "~ta kes 1;");
    }

    /** Terms 2: "Ints, which wrap; / goes towards 0." */
    private static void wraps() {
        ClayBoots x = shire();
        // 9999 three times folded is 999700029999, which wraps to -1027349969; folded by 2 more it is -2054699938.
        Due.tell(x, 0, "leaves 9999*9999*9999;strays 0-9999*9999*9999;");
        Due.is("T2 wraps below 0", x.tells(0, 0, 0, 0), 0);
        Due.is("T2 and back above", x.tells(0, 0, 0, 1), 1000);
        // A seventh of -1027349969 is -146764281 and two sevenths: towards 0.
        Due.tell(x, 0, "leaves 9999*9999*9999/7+9999*9999+9999*4678+8983-6;");
        Due.is("T2 towards 0", x.tells(0, 0, 0, 0), 9999 * 9999 + 9999 * 4678 + 8977 - 146764281);
        // -2054699938 and -1027349969 wrap to 1212917389; 99980001 more than ten times folded go beyond, too.
        Due.tell(x, 0, "leaves 1 when 9999*9999*9999*2+9999*9999*9999>0;leaves 2;");
        Due.is("T2 a sum wraps", x.tells(0, 0, 0, 0), 1);
        Due.tell(x, 0, "leaves 1 when 0-9999*9999*9999*2-9999*9999*9999*7/7<0;leaves 2;");
        Due.is("T2 a difference wraps", x.tells(0, 0, 0, 0), 0 - 2 * (9999 * 9999 * 9999) - 9999 * 9999 * 9999 * 7 / 7 < 0 ? 1 : 2);
        Due.tell(x, 0, "leaves 7/2;strays 0-7/2+10;");
        Due.is("T2 of 7 by 2", x.tells(0, 0, 0, 0), 3);
        Due.is("T2 the part ahead of the difference", x.tells(0, 0, 0, 1), 7);
        Due.tell(x, 0, "leaves 9999/9999;strays 9998/9999;");
        Due.is("T2 all of it", x.tells(0, 0, 0, 0), 1);
        Due.is("T2 not all of it", x.tells(0, 0, 0, 1), 0);
        Due.tell(x, 0, "leaves 7/1;strays 7/0001/1*3;");
        Due.is("T2 by 1", x.tells(0, 0, 0, 0), 7);
        Due.is("T2 by 1 and 1", x.tells(0, 0, 0, 1), 21);
    }

    /** Terms 2: "FAULTS, the first by its place" */
    private static void firstFaultByPlace() {
        marked(0, 2, "takes 1/~0 1;");
        marked(0, 1, "takes 1 ~1/0;");
        marked(0, 1, "~x takes 1/0;");
        marked(0, 2, "takes 1/~0");
        marked(0, 3, "takes 1 when ((((((((~(1/0=1;");
        marked(0, 2, "takes 1/~0 when (((((((((1=1;");
        marked(1, 2, "on ~1000 person 9 by 9 to 9");
        marked(1, 2, "on 0 person ~2 by 9 to 9");
        marked(1, 2, "on 0 person 0 by ~3 to 9");
        marked(1, 2, "on 0 person 0 by 0 to ~3");
        marked(1, 2, "on 0 person 0 by 0 0 0 0 0 ~3 0 to 0;");
        marked(1, 3, "on 0 person 0 by 0 0 0 0 0 0 ~0 3 to 9;");
        marked(2, 2, "on ~1000 wet 10;");
        marked(2, 1, "on 0 ~wets 10;");
        marked(3, 2, "door ~3 door 3 0;");
        marked(3, 2, "door 0 door ~0 0;");
        marked(3, 2, "door 0 door 1 ~0 0;");
        for (int k = 0; k < 4; k++) {
            fault(k, SHORT[k].repeat(15) + "? " + SHORT[k].repeat(2), 1, 15 * SHORT[k].length());
            fault(k, SHORT[k].repeat(16) + SHORT[k].substring(0, SHORT[k].length() - 2) + "?", 3, 16 * SHORT[k].length());
        }
    }

    /** Terms 2: "at one place the least" */
    private static void leastFaultAtOnePlace() {
        // The seventh field that there is not: 2 and 3; a seventh that is no number: 1; a seventeenth line that is none: 1.
        marked(1, 2, "on 0 person 0 by 0 0 0 0 0 0 ~3 to 0;");
        marked(1, 2, "on 0 person 0 by 0 0 0 0 0 0 ~9999 to 0;");
        marked(1, 1, "on 0 person 0 by 0 0 0 0 0 0 ~12345 to 0;");
        marked(1, 1, "on 0 person 0 by 0 0 0 0 0 0 ~by 0;");
        marked(0, 1, "takes 1/~00000;");
        marked(0, 1, "takes 1 when ((((((((1=1~(1=1;");
        marked(0, 1, "takes 1 when ((((((((1=1 ~not 1=1;");
        marked(0, 1, "takes 1 when ((((((((1=~(1=1;");
        for (int k = 0; k < 4; k++) {
            fault(k, SHORT[k].repeat(16) + "?", 1, 16 * SHORT[k].length());
            fault(k, SHORT[k].repeat(16) + ";", 1, 16 * SHORT[k].length());
            fault(k, SHORT[k].repeat(16) + "0", 1, 16 * SHORT[k].length());
            fault(k, SHORT[k].repeat(16) + "size", 1, 16 * SHORT[k].length());
        }
    }

    /** Terms 2: "2 (at the NUMBER) a part by 0;" */
    private static void partByNothing() {
        marked(0, 2, "takes 1/~0;");
        marked(0, 2, "takes 1/ \n ~0000;");
        marked(0, 2, "takes 1/1/~0;");
        marked(0, 2, "takes 1*1/~00*1;");
        marked(0, 2, "takes 1 when 1/~0=1;");
        marked(0, 2, "takes 1 when 1=1 and not (1=1/~0);");
        sound(0, "takes 1/1;");
        sound(0, "takes 1/9999;");
        sound(0, "takes 1*0+0-0;");
        sound(0, "takes 0/1;");
    }

    /** Terms 2: "one beyond its bounds;" and "1 CALLS = {on DAY person PERSON by FIELD {FIELD} to DOOR ;} (DAY 0 .. 999; six FIELDS at most, any again.) 2 SKY = {on DAY (wet N | frost | thaw) ;} (N 0 .. 9.)" */
    private static void beyondBounds() {
        sound(1, "on 0 person 0 by 0 to 0;");
        sound(1, "on 999 person 0 by 0 to 0;");
        marked(1, 2, "on ~1000 person 0 by 0 to 0;");
        marked(1, 2, "on ~9999 person 0 by 0 to 0;");
        sound(2, "on 0 wet 0;on 999 wet 9;on 999 frost;on 999 thaw;");
        marked(2, 2, "on ~1000 frost;");
        marked(2, 2, "on ~1000 thaw;");
        marked(2, 2, "on ~1000 wet 1;");
        marked(2, 2, "on 0 wet ~10;");
        marked(2, 2, "on 0 wet ~9999;");
        sound(3, "door 0 door 1 1;door 0 door 1 99;");
        marked(3, 2, "door 0 door 1 ~0;");
        marked(3, 2, "door 0 door 1 ~100;");
        marked(3, 2, "door 0 door 1 ~9999;");
        ClayBoots x = shire();
        Due.tell(x, 1, "on 999 person 0 by 0 to 0;");
        Due.tell(x, 2, "on 999 wet 9;");
        for (int i = 0; i < 16; i++) {
            x.days(60);
        }
        Due.is("T2 up to day 999 nobody calls", x.days(39) + x.of(0, 3) + x.look(3), 0);
        Due.is("T2 day 999 is one on which one calls", x.days(1), 1);
        Due.is("T2 and on which it is wet", x.look(3), 9);
    }

    /** Terms 2: "a PERSON, a FIELD, a DOOR that there is not;" */
    private static void noneSuch() {
        sound(1, "on 0 person 1 by 2 to 2;");
        marked(1, 2, "on 0 person ~2 by 0 to 0;");
        marked(1, 2, "on 0 person 0 by ~3 to 0;");
        marked(1, 2, "on 0 person 0 by 0 1 2 ~3 to 0;");
        marked(1, 2, "on 0 person 0 by 0 to ~3;");
        sound(3, "door 2 door 0 1;door 1 door 2 1;");
        marked(3, 2, "door ~3 door 0 1;");
        marked(3, 2, "door 0 door ~3 1;");
        marked(3, 2, "door 0 door ~8 1;");
        String[][] texts = {{"on 0 person ~0 by 0 to 0;"}, {"door ~0 door 1 1;"}};
        for (int i = 0; i < 2; i++) {
            ClayBoots none = new ClayBoots();
            Due.tell(none, i == 0 ? 1 : 3, texts[i][0].replace("~", ""));
            Due.is("T2 nobody is there", none.fault(0) * 1000 + none.fault(1), 2000 + texts[i][0].indexOf('~'));
        }
        ClayBoots full = Shires.of(10, 8, 12);
        Due.is("T2 the last of each", Due.tell(full, 1, "on 0 person 11 by 9 9 9 9 9 9 to 7;"), 1);
        Due.is("T2 the last doors", Due.tell(full, 3, "door 7 door 0 1;door 0 door 7 1;"), 2);
        Due.is("T2 a thirteenth", Due.tell(full, 1, "on 0 person 12 by 9 to 7;"), NONE);
        Due.is("T2 an eleventh", Due.tell(full, 1, "on 0 person 11 by 10 to 7;"), NONE);
        Due.is("T2 a ninth", Due.tell(full, 1, "on 0 person 11 by 9 to 8;"), NONE);
        Due.is("T2 a ninth, of ways", Due.tell(full, 3, "door 7 door 8 1;"), NONE);
    }

    /** Terms 2: "the same DOOR again (of WAYS)." */
    private static void sameDoorAgain() {
        for (int d = 0; d < 3; d++) {
            for (int e = 0; e < 3; e++) {
                if (d == e) {
                    marked(3, 2, "door " + d + " door ~" + e + " 1;");
                    marked(3, 2, "door " + d + " door ~00" + e + " 1;");
                } else {
                    sound(3, "door " + d + " door " + e + " 1;");
                }
            }
        }
        sound(3, "door 0 door 1 1;door 1 door 2 1;door 0 door 1 1;");
    }

    /** Terms 2: "3 (at its KEYWORD) the 17th line of a text;" and "16 lines of each at most." */
    private static void seventeenthLine() {
        String[][] kinds = {{"takes 1;", "leaves 1;", "strays 1;"}, {SHORT[1]}, {"on 0wet 1;", "on 0frost;", "on 0thaw;"}, {SHORT[3]}};
        for (int k = 0; k < 4; k++) {
            for (String line : kinds[k]) {
                sound(k, SHORT[k].repeat(15) + line);
                fault(k, SHORT[k].repeat(16) + line, 3, 16 * SHORT[k].length());
                fault(k, SHORT[k].repeat(16) + "\n \n" + line, 3, 16 * SHORT[k].length() + 3);
                sound(k, SHORT[k].repeat(16) + " \n");
            }
        }
        fault(0, SHORT[0].repeat(16) + "takes", 3, 128);
    }

    /** Terms 2: "(at it) the 7th FIELD;" and "six FIELDS at most, any again.)" */
    private static void seventhField() {
        List<String> rows = new ArrayList<>(List.of("0", "2 2", "0 1 2", "2 1 0 0", "1 1 1 1 1", "0 1 2 0 1 2", "2 2 2 2 2 2"));
        for (String row : rows) {
            sound(1, "on 0 person 0 by " + row + " to 0;");
        }
        marked(1, 3, "on 0 person 0 by 0 1 2 0 1 2 ~0 to 0;");
        marked(1, 3, "on 0 person 0 by 2 2 2 2 2 2 ~2 2 2 to 0;");
        ClayBoots x = shire();
        Due.tell(x, 0, "takes 1;leaves 1000;");
        Due.tell(x, 1, "on 0 person 0 by 2 2 2 2 2 2 to 0;on 1 person 0 by 2 0 1 to 2;");
        x.days(1);
        Due.is("T2 six times the same", x.doorOf(0, 12), 6);
        x.days(1);
        Due.is("T2 each of three", x.doorOf(2, 10) * 100 + x.doorOf(2, 11) * 10 + x.doorOf(2, 12), 111);
    }

    /** Terms 2: "the 9th ( or not that is open." */
    private static void ninthOpen() {
        for (int nots = 0; nots <= 8; nots++) {
            String open = "not ".repeat(nots) + "(".repeat(8 - nots);
            String close = ")".repeat(8 - nots);
            sound(0, "takes 1 when " + open + "1=1" + close + ";");
            marked(0, 3, "takes 1 when " + open + "~(1=1)" + close + ";");
            marked(0, 3, "takes 1 when " + open + "~not 1=1" + close + ";");
            String mixed = "(".repeat(8 - nots) + "not ".repeat(nots);
            sound(0, "takes 1 when " + mixed + "1=1" + close + ";");
            marked(0, 3, "takes 1 when " + mixed + "~not 1=1" + close + ";");
            marked(0, 3, "takes 1 when " + mixed + "~(1=1)" + close + ";");
        }
        // What is closed is open no more: a bracket behind its other half, a not behind what it denies.
        sound(0, "takes 1 when ((((((((1=1)and(1=1)and(1=1)))))))) or ((((((((1=1))))))));");
        sound(0, "takes 1 when (((((((not 1=1 and not 1=1 or not 1=1)))))));");
        sound(0, "takes 1 when (((((((not 1=1 and (1=1) or (1=1))))))));");
        sound(0, "takes 1 when ((((((not (1=1) and not (1=1) or not (1=1)))))));");
        sound(0, "takes 1 when not not not not not not not not 1=1 and not not not not not not not not 1=1;");
        sound(0, "takes 1 when not not not not not not not (1=1) or not not not not not not not (1=1);");
        marked(0, 3, "takes 1 when not not not not not not not (1=1 or ~not 1=1);");
        marked(0, 3, "takes 1 when not (not (not (not (1=1 and ~not 1=1))));");
        sound(0, "takes 1 when not (not (not (not (1=1))) and not (not (not 1=1)));");
        // Each line opens anew.
        sound(0, "takes 1 when ((((((((1=1))))))));takes 1 when ((((((((1=1))))))));takes 1 when not(not(not(not(1=1))));");
        String rows = "not 1=1 and ";
        sound(0, "takes 1 when " + rows.repeat(30) + "1=1;");
        sound(0, "takes 1 when " + "(1=1)or ".repeat(45) + "1=1;");
    }

    private static int leaves(String law) {
        ClayBoots x = shire();
        Due.is("T2 sound: " + law, Due.tell(x, 0, law) != NONE, true);
        return x.tells(0, 0, 0, 0);
    }

    /** Terms 2: "What THE LAW tells of a PERSON for a word: E of the first line with that word whose B is so, or that has none" */
    private static void firstLineThatIsSo() {
        Due.is("T2 the first", leaves("leaves 1;leaves 2;"), 1);
        Due.is("T2 the first that is so", leaves("leaves 1 when 1=2;leaves 2 when 2=2;leaves 3 when 3=3;leaves 4;"), 2);
        Due.is("T2 the first that has none", leaves("leaves 1 when 1=2;leaves 2;leaves 3 when 3=3;"), 2);
        Due.is("T2 of that word", leaves("takes 1;strays 2;leaves 3;"), 3);
        Due.is("T2 the sixteenth", leaves("leaves 1 when 1=2;".repeat(15) + "leaves 16;"), 16);
        Due.is("T2 the sixteenth, of several parts", leaves("leaves 1 when 1=2;".repeat(15) + "leaves 100+2*3 when 1=1 and 1+2*3=7;"), 106);
        Due.is("T2 none of sixteen", leaves("leaves 1 when 1=2;".repeat(16)), 500);
    }

    /** Terms 2: "(none: takes: SIZE and WET, leaves: 500, strays: 0)" */
    private static void noLine() {
        ClayBoots x = Shires.of(1, 1, 9);
        for (int wet = 0; wet <= 9; wet += 9) {
            x.set(0, 0, wet);
            Due.is("T2 size 1 and wet " + wet, x.of(0, 20), 1 + wet);
            Due.is("T2 size 9 and wet " + wet, x.of(8, 20), 9 + wet);
        }
        Due.is("T2 leaves", x.tells(0, 0, 0, 0), 500);
        Due.is("T2 strays", x.tells(0, 0, 0, 1), 0);
        Due.tell(x, 0, "takes 1 when 1=2;leaves 1 when 1=2;strays 1 when 1=2;");
        Due.is("T2 takes: none is so", x.of(8, 20), 18);
        Due.is("T2 leaves: none is so", x.tells(0, 0, 0, 0), 500);
        Due.is("T2 strays: none is so", x.tells(0, 0, 0, 1), 0);
        Due.tell(x, 0, "leaves 1;strays 2;");
        Due.is("T2 takes: none of that word", x.of(8, 20), 18);
    }

    /** Terms 2: "takes held to 0 .. 99, leaves, strays to 0 .. 1000:" */
    private static void heldToBounds() {
        int[][] cases = {{0, 0, 0}, {1, 1, 1}, {98, 98, 98}, {99, 99, 99}, {100, 99, 100}, {999, 99, 999}, {1000, 99, 1000},
            {1001, 99, 1000}, {9999, 99, 1000}, {-1, 0, 0}, {-100, 0, 0}, {-9999, 0, 0}};
        for (int[] c : cases) {
            ClayBoots x = shire();
            String e = c[0] < 0 ? "0-" + -c[0] : "" + c[0];
            Due.tell(x, 0, "takes " + e + ";leaves " + e + ";strays " + e + ";");
            Due.is("T2 takes " + e, x.of(0, 20), c[1]);
            Due.is("T2 leaves " + e, x.tells(0, 0, 0, 0), c[2]);
            Due.is("T2 strays " + e, x.tells(0, 0, 0, 1), c[2]);
        }
    }

    private static final String[] FACTS = {"size", "heel", "clay", "land", "load", "wet", "frost", "stone", "called", "day"};

    /** Person 0 of size 3 and heel 5 has called twice, has 6 on his boots; field 0 of clay 2 has 44; door 1 is of stone; frost. */
    private static ClayBoots told(String law) {
        ClayBoots x = shire();
        x.set(0, 0, 0);
        x.act(3, 0);
        x.call(0, 10, 0);
        x.call(0, 10, 0);
        x.days(7);
        x.set(0, 0, 8);
        Due.tell(x, 0, law);
        return x;
    }

    /** Terms 2: "size, heel, called: his; clay, land: the FIELD's (strays: 0); load: what is on his BOOTS together; wet; frost; stone: the DOOR's to which he goes (leaves: at which he wipes; takes: 0); day." For takes. */
    private static void wordsOfTakes() {
        int[] due = {3, 5, 2, 44, 6, 8, 1, 0, 2, 7};
        for (int i = 0; i < FACTS.length; i++) {
            Due.is("T2 takes " + FACTS[i], told("takes " + FACTS[i] + ";").of(0, 20), due[i]);
            Due.is("T2 takes 60 less " + FACTS[i], told("takes 60-" + FACTS[i] + ";").of(0, 20), 60 - due[i]);
        }
    }

    /** Terms 2: "clay, land: the FIELD's (strays: 0);" and "stone: the DOOR's to which he goes (leaves: at which he wipes; takes: 0);" For leaves. */
    private static void wordsOfLeaves() {
        int[] due = {3, 5, 2, 44, 6, 8, 1, 1, 2, 7};
        for (int i = 0; i < FACTS.length; i++) {
            Due.is("T2 leaves " + FACTS[i], told("leaves " + FACTS[i] + ";").tells(0, 0, 1, 0), due[i]);
        }
        Due.is("T2 leaves without stone", told("leaves 9-stone;").tells(0, 0, 0, 0), 9);
        // He goes to a door of stone and wipes at the next, which is none: of it the law hears.
        ClayBoots x = shire();
        Due.tell(x, 0, "takes 8;strays 1000;leaves 1000 when stone=0;leaves 0;");
        Due.is("T2 at which he wipes", x.call(0, 10, 1), 8);
    }

    /** Terms 2: "clay, land: the FIELD's (strays: 0);" and "stone: the DOOR's to which he goes" For strays. */
    private static void wordsOfStrays() {
        int[] due = {3, 5, 0, 0, 6, 8, 1, 1, 2, 7};
        for (int i = 0; i < FACTS.length; i++) {
            Due.is("T2 strays " + FACTS[i], told("strays " + FACTS[i] + ";").tells(0, 0, 1, 1), due[i]);
            Due.is("T2 strays 60 less " + FACTS[i], told("strays 60-" + FACTS[i] + ";").tells(0, 0, 1, 1), 60 - due[i]);
        }
        Due.is("T2 strays without stone", told("strays 9-stone;").tells(0, 0, 0, 1), 9);
        // To a door without stone he strays, though the next one is of stone; to that one he does not.
        ClayBoots x = shire();
        Due.tell(x, 0, "takes 8;strays 1000 when stone=0 and clay=0 and land=0;leaves 1000;");
        Due.is("T2 to stone he strays", x.call(0, 10, 0), 0);
        Due.is("T2 it was at door 1", x.book(0, 3), 1);
        x.call(0, 10, 1);
        Due.is("T2 from stone he does not", x.book(1, 3), 1);
    }

    /** Terms 2: "load: what is on his BOOTS together;" and "size, heel, called: his;" Of all fields, and of nobody else. */
    private static void loadAndLand() {
        ClayBoots x = Shires.of(10, 1, 2);
        Due.tell(x, 0, "takes 1;leaves 0;");
        x.call(1, 1098765, 0);
        x.call(1, 14321, 0);
        Due.tell(x, 0, "takes load;leaves load;strays load*100+called;");
        Due.is("T2 takes of ten fields", x.of(1, 20), 10);
        Due.is("T2 leaves of ten fields", x.tells(1, 0, 0, 0), 10);
        Due.is("T2 strays of ten fields", x.tells(1, 0, 0, 1), 1000);
        Due.is("T2 the other one has none", x.of(0, 20), 0);
        Due.is("T2 nor has he called", x.tells(0, 0, 0, 1), 0);
        x.set(1, 9, 77);
        Due.tell(x, 0, "takes land;leaves clay*100+land;");
        Due.is("T2 land of the tenth", x.of(1, 29), 77);
        Due.is("T2 clay and land of the tenth", x.tells(1, 9, 0, 0), 377);
    }

    private static boolean so(String condition) {
        return leaves("leaves 1 when " + condition + ";leaves 2;") == 1;
    }

    /** Terms 2: "B = A {or A}. A = C {and C}. C = E (< | = | >) E | not C | ( B ). E = T {(+ | -) T}. T = U {* U | / NUMBER}." How tightly each binds. */
    private static void conditions() {
        for (int a = 0; a < 3; a++) {
            for (int b = 0; b < 3; b++) {
                Due.is("T2 <", so(a + "<" + b), a < b);
                Due.is("T2 =", so(a + "=" + b), a == b);
                Due.is("T2 >", so(a + ">" + b), a > b);
                Due.is("T2 not", so("not " + a + "=" + b), a != b);
                Due.is("T2 not <", so("not " + a + "<" + b), a >= b);
                Due.is("T2 not >", so("not " + a + ">" + b), a <= b);
                Due.is("T2 < and >", so(a + "<" + b + " and 2>" + a), a < b && 2 > a);
                Due.is("T2 > and =", so(a + ">" + b + " and 1=1"), a > b);
                Due.is("T2 > or <", so(a + ">" + b + " or " + a + "<" + b), a != b);
                Due.is("T2 not not", so("not not " + a + "=" + b), a == b);
                Due.is("T2 below 0", so("0-" + a + "<0-" + b), -a < -b);
            }
        }
        for (int bits = 0; bits < 8; bits++) {
            boolean a = (bits & 1) == 0;
            boolean b = (bits & 2) == 0;
            boolean c = (bits & 4) == 0;
            String p = a ? "1=1" : "1=2";
            String q = b ? "1=1" : "1=2";
            String r = c ? "1=1" : "1=2";
            Due.is("T2 or and", so(p + " or " + q + " and " + r), a || b && c);
            Due.is("T2 and or", so(p + " and " + q + " or " + r), a && b || c);
            Due.is("T2 (or) and", so("(" + p + " or " + q + ") and " + r), (a || b) && c);
            Due.is("T2 and (or)", so(p + " and (" + q + " or " + r + ")"), a && (b || c));
            Due.is("T2 not and", so("not " + p + " and " + q), !a && b);
            Due.is("T2 not or", so("not " + p + " or " + q), !a || b);
            Due.is("T2 not (or)", so("not (" + p + " or " + q + ") and " + r), !(a || b) && c);
            Due.is("T2 not (and) or", so("not (" + p + " and " + q + ") or " + r), !(a && b) || c);
            Due.is("T2 and not", so(p + " and not " + q + " and " + r), a && !b && c);
        }
        Due.is("T2 as they come", leaves("leaves 100-10-1;"), 89);
        Due.is("T2 * ahead of -", leaves("leaves 100-10*2+1;"), 81);
        Due.is("T2 / ahead of +", leaves("leaves 7+7/2;"), 10);
        Due.is("T2 / and * as they come", leaves("leaves 7/2*2;"), 6);
        Due.is("T2 * and / as they come", leaves("leaves 7*3/2/2;"), 5);
        Due.is("T2 sums on both sides", so("1+2*3=14/2 and 5-6<0"), true);
    }
}
