/** Promises 31 to 39: the back, pull, bow, strain, cooling, and repairs round a flaw. */
public final class PullTest {
    private static final int LOW = Integer.MIN_VALUE, TOP = Integer.MAX_VALUE;
    private static final int NONE = GlassWires.NONE, UNKNOWN = GlassWires.UNKNOWN;
    private static final int OUTSIDE = GlassWires.OUTSIDE, BOW_OUTSIDE = -1000001;

    public static void main(String[] args) {
        back();
        pull();
        bow();
        straight();
        strain();
        cooling();
        cool();
        harms();
        safe();
        greatest();
        Check.end();
    }

    /** 2 by 2 fields, the left ones with fired glass of 14: the front pulls 280. */
    private static GlassWires fired() {
        GlassWires g = new GlassWires();
        g.plate(2, 2);
        Check.draw(g, 1, 0, "uu");
        g.fill(0, 0, 20);
        g.fire(700);
        return g;
    }

    /** 3 by 2 fields, one of them with fired glass of 14, all PULLs 1: the front pulls 14. */
    private static GlassWires uneven() {
        GlassWires g = new GlassWires();
        g.plate(3, 2);
        Check.draw(g, 1, 0, "ul");
        for (int colour = 0; colour < 8; colour++) {
            g.colour(colour, 2, 1);
        }
        g.fill(0, 0, 20);
        g.fire(700);
        return g;
    }

    private static void back() {
        Check.of("31 back");
        GlassWires g = new GlassWires();
        Check.due("back(7, 99)", g.back(7, 99), 1);
        Check.due("pull(1)", g.pull(1), 16 * 99 * 10);
        Check.due("back(0, 0)", g.back(0, 0), 1);
        Check.due("digest()", g.digest(), WiresTest.newDigest(4, 4));
        g.back(3, 12);
        Check.due("back(0, 100)", g.back(0, 100), OUTSIDE);
        Check.due("back(0, -1)", g.back(0, -1), OUTSIDE);
        Check.due("back(0, LOW)", g.back(0, LOW), OUTSIDE);
        Check.due("back(8, 5)", g.back(8, 5), UNKNOWN);
        Check.due("UNKNOWN comes first", g.back(-1, -1), UNKNOWN);
        Check.due("back(TOP, TOP)", g.back(TOP, TOP), UNKNOWN);
        Check.due("a refusal changes nothing", g.pull(1), 16 * 12 * 10);
    }

    private static void pull() {
        Check.of("32 pull");
        GlassWires g = fired();
        Check.due("fired", g.pull(0), 280);
        Check.due("no back", g.pull(1), 0);
        g.fill(0, 1, 3);
        Check.due("raw ones do not", g.pull(0), 280);
        g.fire(751);
        Check.due("burnt ones do", g.pull(0), 340);
        g.colour(1, 2, 0);
        Check.due("by the colour's PULL as it is", g.pull(0), 280);
        g.back(1, 5);
        Check.due("a back that does not pull", g.pull(1), 0);
        g.colour(1, 2, 99);
        Check.due("a back that does", g.pull(1), 4 * 5 * 99);
        Check.due("pull(2)", g.pull(2), OUTSIDE);
        Check.due("pull(-1)", g.pull(-1), OUTSIDE);
        Check.due("pull(LOW)", g.pull(LOW), OUTSIDE);
        Check.due("pull(TOP)", g.pull(TOP), OUTSIDE);
    }

    private static void bow() {
        Check.of("33 bow");
        GlassWires g = fired();
        bowIs(g, 0, 70, 3);
        bowIs(g, 5, 20, 1);
        bowIs(g, 7, 0, 0);
        bowIs(g, 10, -30, -1);
        g.rule(1, 7);
        bowIs(g, 10, -30, -4);
        GlassWires u = uneven();
        bowIs(u, 0, 2, 0);
        bowIs(u, 3, 0, 0);
        bowIs(u, 4, -1, 0);
        Check.due("bow(2)", g.bow(2), BOW_OUTSIDE);
        Check.due("bow(-1)", g.bow(-1), BOW_OUTSIDE);
        Check.due("bow(LOW)", g.bow(LOW), BOW_OUTSIDE);
        Check.due("bow(TOP)", g.bow(TOP), BOW_OUTSIDE);
    }

    private static void bowIs(GlassWires g, int thick, int bow, int bent) {
        g.back(1, thick);
        Check.due("a back of " + thick + ": BOW", g.bow(0), bow);
        Check.due("a back of " + thick + ": BENT", g.bow(1), bent);
    }

    private static void straight() {
        Check.of("34 straight");
        GlassWires g = fired();
        g.back(5, 50);
        Check.due("of like PULL", g.straight(1), 7);
        Check.due("the back stays", g.pull(1), 2000);
        g.colour(1, 2, 0);
        Check.due("it does not pull", g.straight(1), 0);
        g.colour(1, 2, 99);
        Check.due("it pulls too much: 70 or 29", g.straight(1), 1);
        g.colour(1, 2, 1);
        Check.due("it pulls little", g.straight(1), 70);
        g.colour(0, 2, 99);
        Check.due("99 is too little", g.straight(1), 99);
        Check.due("of like bows the least", uneven().straight(1), 2);
        Check.due("1 on all fields, PULL 1", thinAllOver().straight(0), 1);
        Check.due("no glass", new GlassWires().straight(0), 0);
        Check.due("straight(8)", g.straight(8), UNKNOWN);
        Check.due("straight(-1)", g.straight(-1), UNKNOWN);
        Check.due("straight(LOW)", g.straight(LOW), UNKNOWN);
        Check.due("straight(TOP)", g.straight(TOP), UNKNOWN);
    }

    private static GlassWires thinAllOver() {
        GlassWires g = new GlassWires();
        g.colour(0, 2, 1);
        g.fill(0, 0, 1);
        g.fire(700);
        return g;
    }

    private static void strain() {
        Check.of("35 strain");
        GlassWires g = fired();
        Check.due("BOW 70", g.strain(999, 0), 69);
        Check.due("500 down", g.strain(600, 100), 35);
        g.back(1, 10);
        Check.due("BOW -30", g.strain(999, 0), 29);
        Check.due("no step", g.strain(999, 999), 0);
        Check.due("strain(0, 0)", g.strain(0, 0), 0);
        Check.due("just 1", g.strain(134, 100), 1);
        Check.due("just not", g.strain(133, 100), 0);
        int[][] bad = {{1000, 0}, {-1, -1}, {5, 6}, {5, -1}, {0, 1000}, {1000, 1000}, {LOW, 0}, {0, LOW}, {TOP, LOW}};
        for (int[] step : bad) {
            Check.due("strain(" + step[0] + ", " + step[1] + ")", g.strain(step[0], step[1]), OUTSIDE);
        }
    }

    /** BOW -30, BEAR 1: a step may be 66 long. */
    private static GlassWires cracking() {
        GlassWires g = fired();
        g.back(1, 10);
        g.rule(2, 1);
        return g;
    }

    /** BOW -9801, BEAR 1: each step cracks. */
    private static GlassWires alwaysCracking() {
        GlassWires g = new GlassWires();
        g.rule(2, 1);
        g.colour(0, 2, 99);
        g.back(0, 99);
        return g;
    }

    private static void cooling() {
        Check.of("36 cooling");
        GlassWires g = cracking();
        Check.due("cooling(0)", g.cooling(0), 0);
        Check.due("cooling(1)", g.cooling(1), 1);
        Check.due("cooling(66)", g.cooling(66), 1);
        Check.due("cooling(67)", g.cooling(67), 2);
        Check.due("cooling(132)", g.cooling(132), 2);
        Check.due("cooling(999)", g.cooling(999), 16);
        g.rule(2, 50);
        Check.due("it bears more", g.cooling(999), 1);
        g.back(1, 7);
        g.rule(2, 1);
        Check.due("no bow", g.cooling(999), 1);
        Check.due("cooling(1000)", g.cooling(1000), OUTSIDE);
        Check.due("cooling(-1)", g.cooling(-1), OUTSIDE);
        Check.due("cooling(LOW)", g.cooling(LOW), OUTSIDE);
        Check.due("cooling(TOP)", g.cooling(TOP), OUTSIDE);
        GlassWires a = alwaysCracking();
        Check.due("each step cracks", a.cooling(999), NONE);
        Check.due("the least step too", a.cooling(1), NONE);
        Check.due("no step is needed", a.cooling(0), 0);
        a.rule(2, 9);
        Check.due("steps of 1", a.cooling(999), 999);
        a.rule(2, 8);
        Check.due("9 is above 8", a.cooling(999), NONE);
    }

    private static void cool() {
        Check.of("37 cool");
        GlassWires g = cracking();
        Check.due("cool(999, 0)", g.cool(999, 0), 999);
        Check.due("cool(999, 1)", g.cool(999, 1), 933);
        Check.due("cool(999, 15)", g.cool(999, 15), 9);
        Check.due("cool(999, 16)", g.cool(999, 16), 0);
        Check.due("cool(999, 17)", g.cool(999, 17), NONE);
        Check.due("cool(999, -1)", g.cool(999, -1), NONE);
        Check.due("cool(999, LOW)", g.cool(999, LOW), NONE);
        Check.due("cool(999, TOP)", g.cool(999, TOP), NONE);
        Check.due("cool(66, 1)", g.cool(66, 1), 0);
        Check.due("cool(0, 0)", g.cool(0, 0), 0);
        Check.due("cool(0, 1)", g.cool(0, 1), NONE);
        Check.due("cool(1000, 0)", g.cool(1000, 0), OUTSIDE);
        Check.due("cool(-1, 0)", g.cool(-1, 0), OUTSIDE);
        Check.due("cool(LOW, -1)", g.cool(LOW, -1), OUTSIDE);
        GlassWires a = alwaysCracking();
        Check.due("ahead of all steps", a.cool(5, 0), 5);
        Check.due("each step cracks", a.cool(5, 1), NONE);
    }

    /** Three cells side by side, fired glass of HEATS 700, 600, 500. */
    private static GlassWires threeCells() {
        GlassWires g = new GlassWires();
        g.plate(3, 2);
        Check.draw(g, 1, 0, "uu");
        Check.draw(g, 2, 0, "uu");
        for (int cell = 0; cell < 3; cell++) {
            g.colour(cell, 0, 700 - 100 * cell);
            g.fill(cell, cell, 10);
            g.fire(700 - 100 * cell);
        }
        return g;
    }

    private static void harms() {
        Check.of("38 harms");
        GlassWires g = threeCells();
        int[][] due = {{0, 550, 0}, {0, 551, 1}, {0, 650, 1}, {0, 651, 2}, {0, 999, 2}, {1, 650, 1}, {1, 750, 1},
            {1, 751, 2}, {2, 551, 0}, {2, 651, 1}, {2, 751, 2}, {0, 1, 0}};
        for (int[] one : due) {
            Check.due("harms(" + one[0] + ", " + one[1] + ")", g.harms(one[0], one[1]), one[2]);
        }
        g.fill(2, 2, 1);
        Check.due("raw ones are not harmed", g.harms(0, 999), 1);
        g.fire(551);
        Check.due("burnt ones are not harmed", g.harms(0, 999), 1);
        Check.due("harms(0, 0)", g.harms(0, 0), OUTSIDE);
        Check.due("harms(0, 1000)", g.harms(0, 1000), OUTSIDE);
        Check.due("harms(0, LOW)", g.harms(0, LOW), OUTSIDE);
        Check.due("harms(3, 5)", g.harms(3, 5), UNKNOWN);
        Check.due("UNKNOWN comes first", g.harms(-1, 0), UNKNOWN);
        Check.due("harms(TOP, TOP)", g.harms(TOP, TOP), UNKNOWN);
    }

    private static void safe() {
        Check.of("39 safe");
        GlassWires g = threeCells();
        safeIs(g, 2, 0, NONE, NONE);
        safeIs(g, 2, 2, 500, 650);
        safeIs(g, 0, 2, 500, 550);
        safeIs(g, 0, 1, NONE, NONE);
        safeIs(g, 1, 2, 500, 550);
        g.colour(7, 0, 650);
        safeIs(g, 2, 7, 650, 650);
        g.colour(7, 0, 651);
        safeIs(g, 2, 7, NONE, NONE);
        g.empty(0);
        g.empty(1);
        safeIs(g, 2, 7, 651, 999);
        g.fill(0, 0, 5);
        safeIs(g, 2, 7, 651, 999);
        Check.due("safe(3, 0, 0)", g.safe(3, 0, 0), UNKNOWN);
        Check.due("safe(0, 8, 0)", g.safe(0, 8, 0), UNKNOWN);
        Check.due("UNKNOWN comes first", g.safe(0, -1, 2), UNKNOWN);
        Check.due("safe(0, 0, 2)", g.safe(0, 0, 2), OUTSIDE);
        Check.due("safe(0, 0, -1)", g.safe(0, 0, -1), OUTSIDE);
        Check.due("safe(LOW, 0, 0)", g.safe(LOW, 0, 0), UNKNOWN);
        Check.due("safe(0, 0, TOP)", g.safe(0, 0, TOP), OUTSIDE);
    }

    private static void safeIs(GlassWires g, int cell, int colour, int least, int greatest) {
        Check.due("safe(" + cell + ", " + colour + ", 0)", g.safe(cell, colour, 0), least);
        Check.due("safe(" + cell + ", " + colour + ", 1)", g.safe(cell, colour, 1), greatest);
    }

    /** As much glass as there may be, on the greatest plate. */
    private static void greatest() {
        Check.of("32 to 37, the greatest");
        GlassWires g = new GlassWires();
        g.plate(8, 8);
        g.colour(0, 1, 0);
        g.colour(0, 2, 99);
        for (int i = 0; i < 12; i++) {
            Check.due("fill " + i, g.fill(0, 0, 99), 64);
        }
        Check.due("fire(700)", g.fire(700), 768);
        Check.due("count(5)", g.count(5), 768);
        Check.due("state(3)", g.state(3), 64);
        Check.due("pull(0)", g.pull(0), 7527168);
        Check.due("bow(0)", g.bow(0), 117612);
        g.rule(1, 1);
        Check.due("bow(1)", g.bow(1), 117612);
        Check.due("strain(999, 0)", g.strain(999, 0), 117494);
        Check.due("straight(0)", g.straight(0), 99);
        Check.due("cooling(999)", g.cooling(999), NONE);
        g.rule(2, 117);
        Check.due("it bears 117", g.cooling(999), 999);
        g.rule(2, 116);
        Check.due("it bears 116", g.cooling(999), NONE);
        Check.due("harms(0, 999)", g.harms(0, 999), 0);
        Check.due("safe(0, 0, 1)", g.safe(0, 0, 1), 999);
        Check.due("polish()", g.polish(), 64 * (12 * 99 - 20));
        Check.due("layers are left", g.count(5), 64);
        Check.due("empty(0)", g.empty(0), 64);
        g.back(0, 99);
        Check.due("the back alone", g.bow(0), -9801);
    }
}
