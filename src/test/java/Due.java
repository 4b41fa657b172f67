/** Counts the answers that are not the ones that are due. */
final class Due {
    private static int wrong = 0;
    private static int asked = 0;

    private Due() {
    }

    static void is(String what, long got, long want) {
        asked++;
        if (got != want) {
            wrong++;
            if (wrong <= 40) {
                System.out.println(what + " answered " + got + ", due is " + want);
            }
        }
    }

    static void is(String what, boolean got, boolean want) {
        is(what, got ? 1 : 0, want ? 1 : 0);
    }

    static void is(String what, String got, String want) {
        if (!got.equals(want)) {
            System.out.println(what + ": " + got + " instead of " + want);
        }
        is(what, got.equals(want), true);
    }

    static void end() {
        System.out.println(asked + " answers, " + wrong + " not as due");
        if (wrong != 0 || asked == 0) {
            System.exit(1);
        }
    }

    /** Puts a text on an empty tape and tells it. */
    static int tell(ClayBoots x, int k, String text) {
        put(x, text);
        return x.text(k);
    }

    static void put(ClayBoots x, String text) {
        int[] five = new int[5];
        for (int from = 0; from < text.length(); from += 20) {
            for (int i = 0; i < 5; i++) {
                five[i] = 0;
                for (int j = 0; j < 4; j++) {
                    int at = from + 4 * i + j;
                    five[i] = five[i] << 8 | (at < text.length() ? text.charAt(at) & 255 : 32);
                }
            }
            x.feed(five[0], five[1], five[2], five[3], five[4]);
        }
        x.end(text.length());
    }
}
