/** Promises 18 to 30: colours, rules, layers, firings and their plan. */
public final class GlassTest {
    private static final int LOW = Integer.MIN_VALUE, TOP = Integer.MAX_VALUE;
    private static final int NONE = GlassWires.NONE, UNKNOWN = GlassWires.UNKNOWN;
    private static final int OUTSIDE = GlassWires.OUTSIDE, FULL = GlassWires.FULL;

    public static void main(String[] args) {
        colour();
        foes();
        rule();
        fill();
        fillFull();
        empty();
        field();
        layer();
        fireRipens();
        fireBurns();
        fireRunsOver();
        polish();
        state();
        bleeding();
        fills();
        plan();
        heat();
        Check.end();
    }

    /** 2 by 2 fields, a wire between the left cell (0) and the right cell (1). */
    private static GlassWires twoCells() {
        GlassWires g = new GlassWires();
        g.plate(2, 2);
        Check.draw(g, 1, 0, "uu");
        return g;
    }

    private static void colour() {
        Check.of("18 colour");
        GlassWires g = new GlassWires();
        int[] first = {700, 3, 10}, least = {1, 0, 0}, most = {900, 9, 99};
        for (int what = 0; what < 3; what++) {
            for (int colour = 0; colour < 8; colour++) {
                Check.due("the least", g.colour(colour, what, least[what]), first[what]);
                Check.due("the most", g.colour(colour, what, most[what]), least[what]);
                Check.due("too little", g.colour(colour, what, least[what] - 1), OUTSIDE);
                Check.due("too much", g.colour(colour, what, most[what] + 1), OUTSIDE);
                Check.due("far too little", g.colour(colour, what, LOW), OUTSIDE);
                Check.due("far too much", g.colour(colour, what, TOP), OUTSIDE);
                Check.due("a refusal changes nothing", g.colour(colour, what, first[what]), most[what]);
            }
        }
        Check.due("digest()", g.digest(), WiresTest.newDigest(4, 4));
        Check.due("colour(8, ..)", g.colour(8, 0, 5), UNKNOWN);
        Check.due("colour(-1, ..)", g.colour(-1, 0, 5), UNKNOWN);
        Check.due("colour(.., 3, ..)", g.colour(0, 3, 5), UNKNOWN);
        Check.due("colour(.., -1, ..)", g.colour(0, -1, 5), UNKNOWN);
        Check.due("UNKNOWN comes first", g.colour(0, TOP, LOW), UNKNOWN);
    }

    private static void foes() {
        Check.of("19 foes");
        GlassWires g = new GlassWires();
        Check.due("not at first", g.foes(1, 2, false), 0);
        Check.due("now", g.foes(1, 2, true), 0);
        Check.due("the other way round", g.foes(2, 1, true), 1);
        Check.due("others are not", g.foes(1, 3, false), 0);
        Check.due("no more", g.foes(2, 1, false), 1);
        Check.due("both ways", g.foes(1, 2, false), 0);
        Check.due("the same", g.foes(7, 7, true), OUTSIDE);
        Check.due("foes(8, 0)", g.foes(8, 0, true), UNKNOWN);
        Check.due("foes(0, -1)", g.foes(0, -1, true), UNKNOWN);
        Check.due("UNKNOWN comes first", g.foes(8, 8, true), UNKNOWN);
        Check.due("foes(LOW, TOP)", g.foes(LOW, TOP, false), UNKNOWN);
        Check.due("digest()", g.digest(), WiresTest.newDigest(4, 4));
    }

    private static void rule() {
        Check.of("20 rule");
        GlassWires g = new GlassWires();
        int[] first = {20, 20, 50}, most = {99, 99, 999};
        for (int which = 0; which < 3; which++) {
            Check.due("1", g.rule(which, 1), first[which]);
            Check.due("the most", g.rule(which, most[which]), 1);
            Check.due("0", g.rule(which, 0), OUTSIDE);
            Check.due("too much", g.rule(which, most[which] + 1), OUTSIDE);
            Check.due("LOW", g.rule(which, LOW), OUTSIDE);
            Check.due("TOP", g.rule(which, TOP), OUTSIDE);
            Check.due("a refusal changes nothing", g.rule(which, first[which]), most[which]);
        }
        Check.due("rule(3, 5)", g.rule(3, 5), UNKNOWN);
        Check.due("rule(-1, 0)", g.rule(-1, 0), UNKNOWN);
        Check.due("rule(TOP, TOP)", g.rule(TOP, TOP), UNKNOWN);
        Check.due("digest()", g.digest(), WiresTest.newDigest(4, 4));
    }

    private static void fill() {
        Check.of("21 fill");
        GlassWires g = twoCells();
        Check.due("the left cell", g.fill(0, 3, 1), 2);
        Check.due("the right cell", g.fill(1, 4, 99), 2);
        Check.due("on it", g.fill(1, 5, 7), 2);
        Check.due("left", g.field(0, 1, 0), 1);
        Check.due("right", g.field(1, 1, 0), 106);
        Check.due("raw", g.state(0), 6);
        long told = g.digest();
        Check.due("no cell", g.fill(2, 0, 5), UNKNOWN);
        Check.due("fill(-1, ..)", g.fill(-1, 0, 5), UNKNOWN);
        Check.due("fill(TOP, ..)", g.fill(TOP, 0, 5), UNKNOWN);
        Check.due("no colour", g.fill(0, 8, 5), UNKNOWN);
        Check.due("fill(0, -1, ..)", g.fill(0, -1, 5), UNKNOWN);
        Check.due("UNKNOWN comes first", g.fill(0, 8, 0), UNKNOWN);
        Check.due("0", g.fill(0, 0, 0), OUTSIDE);
        Check.due("100", g.fill(0, 0, 100), OUTSIDE);
        Check.due("LOW", g.fill(0, 0, LOW), OUTSIDE);
        Check.due("a refusal changes nothing", g.digest(), told);
    }

    private static void fillFull() {
        GlassWires g = twoCells();
        for (int i = 0; i < 12; i++) {
            Check.due("layer " + i, g.fill(1, i % 8, i + 1), 2);
        }
        Check.due("the 13th", g.fill(1, 0, 5), FULL);
        Check.due("OUTSIDE comes ahead of FULL", g.fill(1, 0, 0), OUTSIDE);
        Check.due("the other cell has room", g.fill(0, 0, 5), 2);
        g.lay(0, false);
        Check.due("some field of the cell has 12", g.fill(0, 0, 5), FULL);
        Check.due("count(5)", g.count(5), 26);
        Check.due("the last layer", g.layer(1, 1, 11, 1), 12);
    }

    private static void empty() {
        Check.of("22 empty");
        GlassWires g = twoCells();
        g.fill(0, 1, 5);
        g.fill(1, 2, 6);
        g.fill(1, 3, 7);
        g.fire(800);
        Check.due("the right cell", g.empty(1), 4);
        Check.due("again", g.empty(1), 0);
        Check.due("the left stays", g.count(5), 2);
        Check.due("nothing is left", g.field(1, 0, 1), 0);
        Check.due("empty(2)", g.empty(2), UNKNOWN);
        Check.due("empty(-1)", g.empty(-1), UNKNOWN);
        Check.due("empty(LOW)", g.empty(LOW), UNKNOWN);
        Check.due("empty(TOP)", g.empty(TOP), UNKNOWN);
    }

    private static void field() {
        Check.of("23 field");
        GlassWires g = twoCells();
        g.fill(0, 1, 5);
        g.fill(0, 2, 6);
        Check.due("HIGH", g.field(0, 1, 0), 11);
        Check.due("LAYERS", g.field(0, 1, 1), 2);
        Check.due("HIGH of none", g.field(1, 1, 0), 0);
        Check.due("no LAYERS", g.field(1, 0, 1), 0);
        Check.due("field(2, 0, 0)", g.field(2, 0, 0), UNKNOWN);
        Check.due("field(0, 2, 0)", g.field(0, 2, 0), UNKNOWN);
        Check.due("field(-1, 0, 0)", g.field(-1, 0, 0), UNKNOWN);
        Check.due("UNKNOWN comes first", g.field(0, TOP, 9), UNKNOWN);
        Check.due("field(0, 0, 2)", g.field(0, 0, 2), OUTSIDE);
        Check.due("field(0, 0, -1)", g.field(0, 0, -1), OUTSIDE);
        Check.due("field(0, 0, LOW)", g.field(0, 0, LOW), OUTSIDE);
    }

    private static void layer() {
        Check.of("24 layer");
        GlassWires g = twoCells();
        g.colour(6, 0, 900);
        g.fill(0, 1, 5);
        g.fill(0, 6, 7);
        g.fire(700);
        layerIs(g, 0, 1, 4, 1);
        layerIs(g, 1, 6, 7, 0);
        g.fire(751);
        layerIs(g, 0, 1, 4, 2);
        layerIs(g, 2, NONE, NONE, NONE);
        layerIs(g, -1, NONE, NONE, NONE);
        layerIs(g, TOP, NONE, NONE, NONE);
        layerIs(g, LOW, NONE, NONE, NONE);
        Check.due("another field", g.layer(1, 0, 0, 0), NONE);
        Check.due("layer(2, 0, 0, 0)", g.layer(2, 0, 0, 0), UNKNOWN);
        Check.due("layer(0, -1, 0, 0)", g.layer(0, -1, 0, 0), UNKNOWN);
        Check.due("UNKNOWN comes first", g.layer(LOW, 0, 0, 3), UNKNOWN);
        Check.due("what = 3", g.layer(0, 0, 0, 3), OUTSIDE);
        Check.due("what = -1", g.layer(0, 0, 0, -1), OUTSIDE);
        Check.due("of no layer", g.layer(0, 0, 5, 3), OUTSIDE);
    }

    private static void layerIs(GlassWires g, int i, int... answers) {
        for (int what = 0; what < answers.length; what++) {
            Check.due("layer(0, 1, " + i + ", " + what + ")", g.layer(0, 1, i, what), answers[what]);
        }
    }

    private static void fireRipens() {
        Check.of("25 fire: ripens");
        GlassWires g = twoCells();
        g.fill(0, 0, 18);
        g.fill(1, 0, 3);
        Check.due("below its HEAT", g.fire(699), 0);
        Check.due("still raw", g.layer(0, 0, 0, 2), 0);
        Check.due("at its HEAT", g.fire(700), 4);
        Check.due("what goes is rounded down", g.layer(0, 0, 0, 1), 13);
        Check.due("nothing goes of 3", g.layer(1, 0, 0, 1), 3);
        Check.due("fired ones do not shrink again", g.fire(700), 0);
        Check.due("13", g.field(0, 0, 0), 13);
        Check.due("FIRINGS", g.state(5), 3);
        g.colour(0, 1, 9);
        g.fill(0, 0, 1);
        g.fire(700);
        Check.due("1 does not shrink", g.layer(0, 0, 1, 1), 1);
        Check.due("fire(0)", g.fire(0), OUTSIDE);
        Check.due("fire(1000)", g.fire(1000), OUTSIDE);
        Check.due("fire(LOW)", g.fire(LOW), OUTSIDE);
        Check.due("fire(TOP)", g.fire(TOP), OUTSIDE);
        Check.due("FIRINGS", g.state(5), 4);
        Check.due("fire(1)", g.fire(1), 0);
        Check.due("fire(999)", g.fire(999), 0);
        Check.due("FIRINGS", g.state(5), 6);
    }

    private static void fireBurns() {
        Check.of("25 fire: burns");
        GlassWires g = twoCells();
        g.fill(0, 0, 10);
        Check.due("fired", g.fire(700), 2);
        g.fire(750);
        Check.due("at HEAT and 50", g.layer(0, 0, 0, 2), 1);
        g.fire(751);
        Check.due("above it", g.layer(0, 0, 0, 2), 2);
        g.fill(0, 1, 10);
        Check.due("what burns at once became fired", g.fire(900), 2);
        Check.due("burnt at once", g.layer(0, 0, 1, 2), 2);
        Check.due("and shrunk", g.layer(0, 0, 1, 1), 7);
        g.fire(999);
        Check.due("burnt ones stay", g.state(2), 4);
        Check.due("and do not shrink", g.field(0, 0, 0), 14);
    }

    private static void fireRunsOver() {
        Check.of("25 fire: runs over");
        runsOver("one layer", 0, 20, 1, 30);
        runsOver("its upmost layer alone", 0, 25, 1, 25, 3);
        runsOver("all that the upmost has", 0, 20, 1, 20, 3);
        runsOver("a part of the upmost", 0, 20, 2, 18, 3);
        runsOver("not at WALL", 0, 20, 1, 20);
        runsOver("beside one just below WALL", 19, 20, 1, 30);
        runsOver("not beside one at WALL", 20, 30, 1, 30);
        runsOver("not beside one above WALL", 99, 30, 1, 30);
        Check.due("not to fields that are open", openFieldsKeep(), 30);
        afterShrinking();
    }

    /** The left cell gets these layers, the right one high glass; both stay raw. */
    private static void runsOver(String what, int right, int high, int layers, int... thicks) {
        GlassWires g = twoCells();
        for (int thick : thicks) {
            g.fill(0, 0, thick);
        }
        if (right > 0) {
            g.fill(1, 0, right);
        }
        g.fire(1);
        Check.due(what + ": HIGH", g.field(0, 0, 0), high);
        Check.due(what + ": HIGH above", g.field(0, 1, 0), high);
        Check.due(what + ": LAYERS", g.field(0, 0, 1), layers);
    }

    private static int openFieldsKeep() {
        GlassWires g = twoCells();
        g.fill(0, 0, 30);
        g.lay(0, false);
        g.fire(1);
        return g.field(0, 0, 0);
    }

    private static void afterShrinking() {
        GlassWires g = twoCells();
        g.fill(0, 0, 28);
        g.fire(700);
        Check.due("by HIGH as it is when shrunk", g.field(0, 0, 0), 20);
        g.rule(0, 11);
        g.fire(1);
        Check.due("WALL is another", g.field(0, 0, 0), 11);
    }

    private static void polish() {
        Check.of("26 polish");
        GlassWires g = twoCells();
        Check.due("nothing", g.polish(), 0);
        g.fill(0, 0, 15);
        g.fill(0, 1, 10);
        g.fill(0, 2, 5);
        g.fill(1, 0, 20);
        Check.due("two fields, 10 each", g.polish(), 20);
        Check.due("HIGH", g.field(0, 1, 0), 20);
        Check.due("LAYERS", g.field(0, 1, 1), 2);
        Check.due("the upmost", g.layer(0, 1, 1, 1), 5);
        Check.due("at WALL nothing goes", g.field(1, 0, 0), 20);
        Check.due("nothing more", g.polish(), 0);
        g.rule(0, 15);
        Check.due("a layer just goes", g.polish(), 20);
        Check.due("LAYERS", g.field(0, 0, 1), 1);
        g.rule(0, 1);
        Check.due("down to 1", g.polish(), 56);
        Check.due("HIGH", g.field(1, 1, 0), 1);
    }

    private static void state() {
        Check.of("27 state");
        GlassWires g = twoCells();
        for (int what = 0; what <= 5; what++) {
            Check.due("state(" + what + ") at first", g.state(what), 0);
        }
        g.colour(1, 0, 800);
        g.colour(2, 0, 600);
        g.fill(0, 0, 10);
        g.fill(0, 1, 12);
        g.fill(1, 2, 19);
        g.fill(1, 1, 1);
        g.fire(700);
        int[] due = {4, 2, 2, 0, 0, 1};
        for (int what = 0; what <= 5; what++) {
            Check.due("state(" + what + ")", g.state(what), due[what]);
        }
        g.fill(0, 3, 1);
        Check.due("HIGH is WALL", g.state(3), 2);
        g.fill(1, 3, 99);
        Check.due("HIGH is above WALL", g.state(3), 4);
        Check.due("state(6)", g.state(6), OUTSIDE);
        Check.due("state(-1)", g.state(-1), OUTSIDE);
        Check.due("state(LOW)", g.state(LOW), OUTSIDE);
        Check.due("state(TOP)", g.state(TOP), OUTSIDE);
    }

    private static void bleeding() {
        Check.of("27 state: bleeding");
        GlassWires g = twoCells();
        Check.draw(g, 0, 1, "r");
        g.foes(1, 2, true);
        g.fill(0, 1, 5);
        Check.due("none beside it", g.state(4), 0);
        g.fill(1, 2, 5);
        Check.due("to the right", g.state(4), 1);
        g.fill(2, 2, 5);
        Check.due("and up", g.state(4), 2);
        g.fill(2, 3, 1);
        Check.due("only upmost layers", g.state(4), 1);
        g.empty(2);
        g.fill(2, 2, 5);
        g.solder(0, true);
        Check.due("the wire between is soldered", g.state(4), 1);
        g.lay(0, false);
        Check.due("but lifted", g.state(4), 2);
        g.lay(0, true);
        g.solder(1, true);
        Check.due("both are soldered", g.state(4), 0);
        g.solder(0, false);
        Check.due("not the other", g.state(4), 1);
        g.lay(0, false);
        g.lay(1, false);
        Check.due("no wire at all", g.state(4), 2);
        g.fire(700);
        Check.due("fired ones too", g.state(4), 2);
        g.foes(1, 2, false);
        Check.due("no foes", g.state(4), 0);
    }

    private static void fills() {
        Check.of("28 fills");
        GlassWires g = new GlassWires();
        int[][] due = {{0, 1}, {3, 2}, {5, 4}, {9, 14}};
        for (int[] one : due) {
            g.colour(4, 1, one[0]);
            Check.due("SHRINK " + one[0], g.fills(4), one[1]);
        }
        g.rule(0, 1);
        Check.due("WALL 1 less 1 is there from the start", g.fills(4), 0);
        g.rule(0, 2);
        Check.due("WALL 2", g.fills(4), 1);
        Check.due("fills(8)", g.fills(8), UNKNOWN);
        Check.due("fills(-1)", g.fills(-1), UNKNOWN);
        Check.due("fills(LOW)", g.fills(LOW), UNKNOWN);
        Check.due("fills(TOP)", g.fills(TOP), UNKNOWN);
    }

    private static void plan() {
        Check.of("29 plan");
        GlassWires g = new GlassWires();
        Check.due("no colour", g.plan(0), 0);
        Check.due("one", g.plan(1), 2);
        Check.due("all alike", g.plan(255), 2);
        g.colour(1, 0, 640);
        g.colour(2, 1, 5);
        Check.due("out of reach", g.plan(3), 4);
        Check.due("one needs more", g.plan(5), 4);
        Check.due("three", g.plan(7), 6);
        g.colour(1, 0, 650);
        Check.due("just in reach", g.plan(3), 2);
        Check.due("plan(7)", g.plan(7), 4);
        g.colour(1, 0, 649);
        Check.due("just out of reach", g.plan(3), 4);
        for (int colour = 0; colour < 8; colour++) {
            g.colour(colour, 0, 800 - 100 * colour);
            g.colour(colour, 1, 3);
        }
        Check.due("none in reach of another", g.plan(255), 16);
        Check.due("the last", g.heat(255, 15), 150);
        g.rule(0, 1);
        Check.due("nothing to fill", g.plan(255), 0);
        Check.due("plan(256)", g.plan(256), OUTSIDE);
        Check.due("plan(-1)", g.plan(-1), OUTSIDE);
        Check.due("plan(LOW)", g.plan(LOW), OUTSIDE);
        Check.due("plan(TOP)", g.plan(TOP), OUTSIDE);
    }

    private static void heat() {
        Check.of("30 heat");
        GlassWires g = new GlassWires();
        g.colour(1, 0, 650);
        g.colour(2, 1, 5);
        g.colour(3, 0, 100);
        int[] due = {750, 750, 700, 700, 150, 150, NONE};
        for (int i = 0; i < due.length; i++) {
            Check.due("heat(15, " + i + ")", g.heat(15, i), due[i]);
        }
        g.colour(4, 0, 900);
        Check.due("the hottest", g.heat(255, 0), 950);
        Check.due("heat(1, 0)", g.heat(1, 0), 750);
        Check.due("heat(0, 0)", g.heat(0, 0), NONE);
        Check.due("heat(1, -1)", g.heat(1, -1), NONE);
        Check.due("heat(1, TOP)", g.heat(1, TOP), NONE);
        Check.due("heat(1, LOW)", g.heat(1, LOW), NONE);
        Check.due("heat(256, 0)", g.heat(256, 0), OUTSIDE);
        Check.due("heat(-1, -1)", g.heat(-1, -1), OUTSIDE);
        Check.due("heat(TOP, TOP)", g.heat(TOP, TOP), OUTSIDE);
    }
}
