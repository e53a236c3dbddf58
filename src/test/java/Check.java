import java.util.function.IntUnaryOperator;
import java.util.function.LongSupplier;

/** What the tests of the project share: answers compared, and calls told shortly. */
final class Check {
    /** Moves to and fro, as many as a page holds. */
    static final String TO_AND_FRO = "rlrlrlrlrlrlrlrlrlrlrlrlrlrlrlrlrlrlrlrl";

    private static final int LETTERS_AT_ONCE = 8;

    private static String about = "";
    private static int asked = 0;
    private static int wrong = 0;

    private Check() {
    }

    /** What the next answers are about. */
    static void of(String what) {
        about = what;
    }

    static void due(String call, long got, long want) {
        asked++;
        if (got != want) {
            wrong++;
            System.out.println(about + ": " + call + " answered " + got + ", due is " + want);
        }
    }

    static void holds(String what, boolean is) {
        due(what, is ? 1 : 0, 1);
    }

    /** An answer that leaves all as it was: a refusal, or a question. */
    static void keeps(GlassWires g, String call, long want, LongSupplier ask) {
        long told = g.digest();
        due(call, ask.getAsLong(), want);
        due(call + " changes nothing: digest()", g.digest(), told);
    }

    /** The same answer for each of these numbers, and all stays as it was. */
    static void keepsEach(GlassWires g, String call, int want, IntUnaryOperator ask, int... numbers) {
        for (int number : numbers) {
            keeps(g, call + " of " + number, want, () -> ask.applyAsInt(number));
        }
    }

    static int wrong() {
        return wrong;
    }

    /** Ends the test: with exit code 1, if an answer was wrong. */
    static void end() {
        System.out.println(asked + " answers, " + wrong + " wrong");
        if (wrong != 0) {
            System.exit(1);
        }
    }

    /** Up to eight letters as a call of letters takes them. */
    static long packed(String letters) {
        long w = 0;
        for (int i = letters.length() - 1; i >= 0; i--) {
            w = w << 8 | letters.charAt(i);
        }
        return w;
    }

    /** Letters put behind the page: the last call's answer. */
    static int write(GlassWires g, String letters) {
        int answer = g.letters(0);
        for (int i = 0; i < letters.length(); i += LETTERS_AT_ONCE) {
            int end = Math.min(letters.length(), i + LETTERS_AT_ONCE);
            answer = g.letters(packed(letters.substring(i, end)));
        }
        return answer;
    }

    /** A wire of these moves, on a page that was blank. */
    static int draw(GlassWires g, int x, int y, String moves) {
        g.blank();
        write(g, moves);
        return g.wire(x, y);
    }

    static GlassWires plateOf(int w, int h) {
        GlassWires g = new GlassWires();
        g.plate(w, h);
        return g;
    }

    /** Wires along all lines inside, first those that go up: each field is a cell. */
    static GlassWires gridOf(int w, int h) {
        GlassWires g = plateOf(w, h);
        for (int x = 1; x < w; x++) {
            draw(g, x, 0, "uuuuuuuu".substring(0, h));
        }
        for (int y = 1; y < h; y++) {
            draw(g, 0, y, "rrrrrrrr".substring(0, w));
        }
        return g;
    }

    /** What digest makes of these numbers. */
    static long mixed(long... numbers) {
        long h = 233;
        for (long number : numbers) {
            h = 31 * h + number;
        }
        return h;
    }
}
