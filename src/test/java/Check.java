/** What the tests of the project share: answers compared, and calls told shortly. */
final class Check {
    private static final int LETTERS_AT_ONCE = 8;

    private static String about = "";
    private static int asked = 0;
    private static int wrong = 0;

    private Check() {
    }

    /** What the next answers are about. */
    static void of(String what) {
        about = what;
    }

    static void due(String call, long got, long want) {
        asked++;
        if (got != want) {
            wrong++;
            System.out.println(about + ": " + call + " answered " + got + ", due is " + want);
        }
    }

    static void holds(String what, boolean is) {
        due(what, is ? 1 : 0, 1);
    }

    static int wrong() {
        return wrong;
    }

    /** Ends the test: with exit code 1, if an answer was wrong. */
    static void end() {
        System.out.println(asked + " answers, " + wrong + " wrong");
        if (wrong != 0) {
            System.exit(1);
        }
    }

    /** Up to eight letters as a call of letters takes them. */
    static long packed(String letters) {
        long w = 0;
        for (int i = letters.length() - 1; i >= 0; i--) {
            w = w << 8 | letters.charAt(i);
        }
        return w;
    }

    /** Letters put behind the page: the last call's answer. */
    static int write(GlassWires g, String letters) {
        int answer = g.letters(0);
        for (int i = 0; i < letters.length(); i += LETTERS_AT_ONCE) {
            int end = Math.min(letters.length(), i + LETTERS_AT_ONCE);
            answer = g.letters(packed(letters.substring(i, end)));
        }
        return answer;
    }

    /** A wire of these moves, on a page that was blank. */
    static int draw(GlassWires g, int x, int y, String moves) {
        g.blank();
        write(g, moves);
        return g.wire(x, y);
    }

    /** What digest makes of these numbers. */
    static long mixed(long... numbers) {
        long h = 233;
        for (long number : numbers) {
            h = 31 * h + number;
        }
        return h;
    }
}
