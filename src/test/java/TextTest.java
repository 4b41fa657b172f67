import java.util.Random;

/** Texts and their faults: by hand at the edges, and at random against the grammar. */
public final class TextTest {
    private static final int NONE = ClayBoots.NONE;

    private TextTest() {
    }

    public static void main(String[] args) {
        faultsByHand();
        lawByHand();
        random();
        Due.end();
    }

    private static void fault(int k, String text, int kind, int place) {
        ClayBoots x = PromisesTest.shire();
        Due.is("12 " + text, Due.tell(x, k, text) == NONE, kind != 0);
        Due.is("13 the fault of " + text, x.fault(0), kind);
        Due.is("13 the place in " + text, x.fault(1), place);
    }

    private static void faultsByHand() {
        fault(0, "takes ", 1, 6);
        fault(0, "takes 1 ;;", 1, 9);
        fault(0, "Takes 1;", 1, 0);
        fault(0, "takesX 1;", 1, 0);
        fault(0, "takesA 1;", 1, 0);
        fault(0, "takesZ 1;", 1, 0);
        fault(0, "takes 1\t;", 1, 7);
        fault(0, "takes (1);", 1, 6);
        fault(0, "takes -1;", 1, 6);
        fault(0, "takes 1 1;", 1, 8);
        fault(0, "takes 1/size;", 1, 8);
        fault(0, "takes 1/0000;", 2, 8);
        fault(0, "takes 1/00000;", 1, 8);
        fault(0, "takes 9999/9999*0;", 0, NONE);
        fault(0, "takes 10000;", 1, 6);
        fault(0, "takes 1 when (1);", 1, 15);
        fault(0, "takes 1 when 1=1);", 1, 16);
        fault(0, "takes 1 when (1=1;", 1, 17);
        fault(0, "takes 1 when 1=1=1;", 1, 16);
        fault(0, "takes 1 when 1=1 and;", 1, 20);
        fault(0, "takes 1 when not;", 1, 16);
        fault(0, "takes 1 when ();", 1, 14);
        fault(0, "takes 1 when 1<=2;", 1, 15);
        fault(0, "takes 1 when ((((((((1=1))))))));", 0, NONE);
        fault(0, "takes 1 when (((((((((1=1)))))))));", 3, 21);
        fault(0, "takes 1 when ((((((((1=1)))))))));", 1, 32);
        fault(0, "takes 1 when not(not(not(not(1=1)))) and not(not(not(not(1=1))));", 0, NONE);
        fault(0, "takes 1 when not(not(not(not(not 1=1))));", 3, 29);
        fault(0, "takes 1 when (((((((not 1=1 and not 1=1 and not 1=1)))))));", 0, NONE);
        fault(0, "takes 1 when (((((((not not 1=1)))))));", 3, 24);
        fault(1, "on 999 person 1 by 2 2 2 2 2 2 to 2;", 0, NONE);
        fault(1, "on 0 person 0 by 0 0 0 0 0 0 3 to 0;", 2, 29);
        fault(1, "on 0 person 0 by 0 0 0 0 0 0 2 to 0;", 3, 29);
        fault(1, "on 0 person 0 by 0 to 0", 1, 23);
        fault(1, "on 0 person 0 by 0 to 3;", 2, 22);
        fault(1, "on 0 person 2 by 0 to 3;", 2, 12);
        fault(1, "on 0 person 0 to 0;", 1, 14);
        fault(2, "on 1 wet;", 1, 8);
        fault(2, "on 1 rain;", 1, 5);
        fault(2, "on 1 frost 1;", 1, 11);
        fault(2, "on 1 wet 10;", 2, 9);
        fault(2, "on 1 wet 12345;", 1, 9);
        fault(2, "on 1000 wet 10;", 2, 3);
        fault(3, "door 0 door 0 5;", 2, 12);
        fault(3, "door 0 door 00 5;", 2, 12);
        fault(3, "door 3 door 0 5;", 2, 5);
        fault(3, "door 0 door 3 5;", 2, 12);
        fault(3, "door 0 door 1 0;", 2, 14);
        fault(3, "door 0 door 1 100;", 2, 14);
        fault(3, "door 0 door 1;", 1, 13);
        fault(3, "door 0 1 5;", 1, 7);
        fault(0, ";".repeat(400), 1, 0);
        fault(0, "takes 1;" + "x".repeat(392), 1, 8);
        cut("takes 1;takes 2;", 12, 8);
        cut("takes 12345", 10, 10);
        tooManyLines(0, "leaves 1;");
        tooManyLines(1, "on 0person 0by 0to 0;");
        tooManyLines(2, "on 5frost;");
        tooManyLines(3, "door 0door 1 5;");
    }

    /** What once stood behind the end of the tape is not read. */
    private static void cut(String text, int length, int place) {
        ClayBoots x = PromisesTest.shire();
        Due.put(x, text);
        x.end(length);
        Due.is("11 cut " + text, x.text(0), NONE);
        Due.is("11 cut " + text, x.fault(1), place);
    }

    private static void tooManyLines(int k, String line) {
        String sixteen = line.repeat(16);
        fault(k, sixteen, 0, NONE);
        fault(k, sixteen + " " + line, 3, sixteen.length() + 1);
        fault(k, sixteen + "x", 1, sixteen.length());
        fault(k, sixteen + ";", 1, sixteen.length());
    }

    private static int said(String law) {
        ClayBoots x = PromisesTest.shire();
        Due.is("12 sound", Due.tell(x, 0, law) != NONE, true);
        return x.tells(0, 0, 0, 0);
    }

    private static void lawByHand() {
        Due.is("17 the first line that is so", said("takes 1;leaves 2 when 1>1;leaves 3 when 1=1;leaves 4;"), 3);
        Due.is("17 and ahead of or", said("leaves 1 when 1=1 or 1=1 and 1=2;leaves 2;"), 1);
        Due.is("17 not ahead of and", said("leaves 1 when not 1=2 and 1=2;leaves 2;"), 2);
        Due.is("17 brackets", said("leaves 1 when (1=1 or 1=1) and 1=2;leaves 2;"), 2);
        Due.is("17 * and / as they come", said("leaves 7/2*2+7*3/4-1-1;"), 6 + 5 - 2);
        Due.is("17 the last of many", said("leaves 9 when 1=2;".repeat(15) + "leaves 100+2*3 when 5<6;"), 106);
        Due.is("17 as long as can be", said("leaves  1" + "+1".repeat(195) + ";"), 196);
        // 9999 three times folded wraps to -1027349969; a seventh of it, towards 0, is -146764281.
        Due.is("17 wraps, / goes towards 0", said("leaves 9999*9999*9999/7+9999*9999+9999*4678+8977;"), 19);
    }

    private static void random() {
        Random random = new Random(44);
        RandomTexts texts = new RandomTexts(random);
        for (int i = 0; i < 30000; i++) {
            ClayBoots x = PromisesTest.shire();
            int k = i % 3 == 0 ? i / 3 % 4 : 0;
            String text = texts.text(k, 3, 3, 2);
            text = random.nextInt(3) == 0 ? texts.harmed(text) : text;
            TextModel model = new TextModel(k, text, 3, 3, 2);
            Due.is("12 " + text, Due.tell(x, k, text), model.kind == 0 ? model.lines() : NONE);
            Due.is("13 fault of " + text, x.fault(0), model.kind);
            Due.is("13 place in " + text, x.fault(1), model.place);
            if (k == 0 && model.kind == 0) {
                compareLaw(x, model, random, text);
            }
        }
    }

    private static void compareLaw(ClayBoots x, TextModel model, Random random, String text) {
        x.days(1 + random.nextInt(5));
        x.set(0, 0, random.nextInt(10));
        x.act(3 + random.nextInt(2), 0);
        x.call(0, 1012, 1);
        for (int p = 0; p < 2; p++) {
            for (int f = 0; f < 3; f++) {
                Due.is("14 takes by " + text, x.of(p, 20 + f), model.tell("takes", facts(x, p, f, NONE)));
                for (int d = 0; d < 2; d++) {
                    Due.is("17 leaves by " + text, x.tells(p, f, d, 0), model.tell("leaves", facts(x, p, f, d)));
                    Due.is("17 strays by " + text, x.tells(p, f, d, 1), model.tell("strays", facts(x, p, NONE, d)));
                }
            }
        }
    }

    private static int[] facts(ClayBoots x, int p, int f, int d) {
        return new int[] {x.of(p, 1), x.of(p, 2), f == NONE ? 0 : x.fieldOf(f, 0), f == NONE ? 0 : x.fieldOf(f, 1),
            x.of(p, 4), x.look(3), x.look(4), d == NONE ? 0 : x.doorOf(d, 0), x.of(p, 3), x.look(6)};
    }
}
