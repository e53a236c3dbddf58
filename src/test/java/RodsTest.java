/** Promises 40 to 43: rods, wires cut from them, counts and the digest; and the constants. */
public final class RodsTest {
    private static final int LOW = Integer.MIN_VALUE, TOP = Integer.MAX_VALUE;
    private static final int NONE = GlassWires.NONE;
    private static final int OUTSIDE = GlassWires.OUTSIDE, STATE = GlassWires.STATE, FULL = GlassWires.FULL;

    public static void main(String[] args) {
        constants();
        rod();
        cut();
        cutLimits();
        count();
        digest();
        Check.end();
    }

    private static void constants() {
        Check.of("the constants");
        Check.due("NONE", GlassWires.NONE, -1);
        Check.due("UNKNOWN", GlassWires.UNKNOWN, -101);
        Check.due("OUTSIDE", GlassWires.OUTSIDE, -102);
        Check.due("STATE", GlassWires.STATE, -103);
        Check.due("FULL", GlassWires.FULL, -104);
    }

    private static void rod() {
        Check.of("40 rod");
        GlassWires g = new GlassWires();
        int[][] bad = {{0, 5}, {100, 5}, {5, -1}, {5, 21}, {LOW, 5}, {TOP, 5}, {5, LOW}, {5, TOP}};
        refuses(g, bad);
        Check.due("rod(1, 0)", g.rod(1, 0), 0);
        Check.due("rod(99, 20)", g.rod(99, 20), 1);
        for (int kind = 2; kind < 8; kind++) {
            Check.due("kind " + kind, g.rod(5, 5), kind);
        }
        Check.due("the 9th kind", g.rod(5, 5), FULL);
        refuses(g, bad);
        Check.due("count(4)", g.count(4), 8);
    }

    private static void refuses(GlassWires g, int[][] bad) {
        for (int[] one : bad) {
            Check.due("rod(" + one[0] + ", " + one[1] + ")", g.rod(one[0], one[1]), OUTSIDE);
        }
    }

    /** Wires of these lengths, going to and fro. */
    private static GlassWires wires(int... lengths) {
        GlassWires g = new GlassWires();
        for (int length : lengths) {
            Check.draw(g, 0, 0, "rlrlrlrlrlrlrlrlrlrlrlrl".substring(0, length));
        }
        return g;
    }

    private static void cutIs(GlassWires g, String what, int rods, int waste) {
        Check.due(what + ": cut(0)", g.cut(0), rods);
        Check.due(what + ": cut(1)", g.cut(1), waste);
    }

    private static void cut() {
        Check.of("41 cut");
        GlassWires g = wires(3, 2, 5);
        cutIs(g, "no rods", NONE, NONE);
        g.rod(6, 2);
        cutIs(g, "two of 6", 2, 2);
        g.rod(4, 3);
        cutIs(g, "some of 4 too", 2, 2);
        g.rod(5, 1);
        cutIs(g, "one of 5", 2, 1);
        g.rod(5, 1);
        cutIs(g, "and another", 2, 0);
        g.rod(99, 1);
        cutIs(g, "fewer rods come ahead of waste", 1, 89);
        g.rod(10, 0);
        cutIs(g, "a kind of which there is none", 1, 89);
        g.rod(10, 1);
        cutIs(g, "one that just does", 1, 0);
        g.lay(2, false);
        cutIs(g, "laid wires alone: 3, 2", 1, 0);
        g.lay(1, false);
        cutIs(g, "3", 1, 1);
        g.lay(0, false);
        cutIs(g, "none is laid", 0, 0);
        cutHard();
    }

    private static void cutHard() {
        GlassWires g = wires(3, 3);
        g.rod(5, 1);
        cutIs(g, "one rod lacks", NONE, NONE);
        g.rod(3, 1);
        cutIs(g, "of two kinds", 2, 2);
        GlassWires h = wires(24, 1);
        h.rod(23, 20);
        cutIs(h, "a wire is of one rod whole", NONE, NONE);
        h.rod(24, 1);
        cutIs(h, "24 and 23", 2, 22);
        GlassWires i = wires(6, 5, 4, 3, 2, 2, 1, 1);
        i.rod(8, 3);
        cutIs(i, "all of three rods", 3, 0);
        GlassWires j = wires(7, 6, 5, 4, 3, 2, 2, 1);
        j.rod(10, 3);
        cutIs(j, "filled to the end", 3, 0);
    }

    private static void cutLimits() {
        GlassWires g = wires(1, 1, 1, 1, 1, 1, 1, 1);
        g.rod(1, 20);
        cutIs(g, "eight wires, eight rods", 8, 0);
        Check.draw(g, 0, 0, "r");
        cutIs(g, "nine wires", STATE, STATE);
        Check.due("OUTSIDE comes first", g.cut(2), OUTSIDE);
        g.lay(3, false);
        cutIs(g, "one is lifted", 8, 0);
        Check.due("cut(-1)", g.cut(-1), OUTSIDE);
        Check.due("cut(LOW)", g.cut(LOW), OUTSIDE);
        Check.due("cut(TOP)", g.cut(TOP), OUTSIDE);
    }

    private static void count() {
        Check.of("42 count");
        GlassWires g = new GlassWires();
        g.plate(5, 3);
        Check.draw(g, 1, 0, "uuu");
        Check.draw(g, 2, 0, "uuu");
        g.lay(0, false);
        Check.write(g, "abcd");
        g.rod(5, 0);
        g.fill(0, 0, 5);
        g.fill(0, 0, 5);
        int[] due = {15, 2, 1, 4, 1, 12};
        for (int what = 0; what < due.length; what++) {
            Check.due("count(" + what + ")", g.count(what), due[what]);
        }
        Check.due("count(6)", g.count(6), OUTSIDE);
        Check.due("count(-1)", g.count(-1), OUTSIDE);
        Check.due("count(LOW)", g.count(LOW), OUTSIDE);
        Check.due("count(TOP)", g.count(TOP), OUTSIDE);
    }

    private static void digest() {
        Check.of("43 digest");
        GlassWires g = new GlassWires();
        g.plate(2, 3);
        Check.draw(g, 1, 0, "uuu");
        Check.draw(g, 0, 1, "ru");
        g.lay(1, false);
        g.solder(0, true);
        for (int colour = 0; colour < 8; colour++) {
            g.colour(colour, 0, 600 + colour);
            g.colour(colour, 1, colour);
            g.colour(colour, 2, 30 + colour);
        }
        g.foes(0, 2, true);
        g.foes(7, 6, true);
        g.rule(0, 41);
        g.rule(1, 42);
        g.rule(2, 43);
        g.fill(1, 3, 10);
        g.fire(640);
        g.fill(0, 4, 11);
        g.fill(1, 5, 12);
        g.fire(1);
        g.fire(654);
        g.back(6, 13);
        g.rod(14, 15);
        g.rod(16, 17);
        Check.write(g, "zA~");
        Check.due("all of it", g.digest(), Check.mixed(
                2, 3,
                1, 1, 1, 11, 21, 31,
                0, 0, 10, 11, 21,
                600, 0, 30, 601, 1, 31, 602, 2, 32, 603, 3, 33, 604, 4, 34, 605, 5, 35, 606, 6, 36, 607, 7, 37,
                0, 1, 0, 0, 0, 0, 0,
                0, 0, 0, 0, 0, 0,
                0, 0, 0, 0, 0,
                0, 0, 0, 0,
                0, 0, 0,
                0, 0,
                1,
                41, 42, 43,
                4, 7, 1,
                3, 7, 2, 5, 6, 1,
                4, 7, 1,
                3, 7, 2, 5, 6, 1,
                4, 7, 1,
                3, 7, 2, 5, 6, 1,
                6, 13,
                3,
                14, 15, 16, 17,
                'z', 'A', '~'));
        Check.due("again the same", g.digest(), g.digest());
    }
}
