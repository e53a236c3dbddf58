/** Promises 1 to 17: the plate, the page, wires, what they make together, cells and paints. */
public final class WiresTest {
    private static final int LOW = Integer.MIN_VALUE, TOP = Integer.MAX_VALUE;
    private static final int NONE = GlassWires.NONE, UNKNOWN = GlassWires.UNKNOWN;
    private static final int OUTSIDE = GlassWires.OUTSIDE, STATE = GlassWires.STATE, FULL = GlassWires.FULL;

    public static void main(String[] args) {
        newObject();
        plate();
        letters();
        blank();
        good();
        wire();
        lay();
        solder();
        about();
        floating();
        point();
        covers();
        many();
        pieces();
        end();
        cellAndSize();
        paints();
        Check.end();
    }

    static long newDigest(int w, int h) {
        long[] numbers = new long[2 + 24 + 28 + 3 + 3];
        numbers[0] = w;
        numbers[1] = h;
        for (int colour = 0; colour < 8; colour++) {
            numbers[2 + 3 * colour] = 700;
            numbers[3 + 3 * colour] = 3;
            numbers[4 + 3 * colour] = 10;
        }
        numbers[54] = 20;
        numbers[55] = 20;
        numbers[56] = 50;
        return Check.mixed(numbers);
    }

    private static void newObject() {
        Check.of("1 new object");
        GlassWires g = new GlassWires();
        Check.due("count(0)", g.count(0), 16);
        for (int what = 1; what <= 5; what++) {
            Check.due("count(" + what + ")", g.count(what), 0);
        }
        Check.due("good(4, 4)", g.good(4, 4), 0);
        Check.due("good(5, 4)", g.good(5, 4), UNKNOWN);
        Check.due("good(4, 5)", g.good(4, 5), UNKNOWN);
        Check.due("cell(3, 3)", g.cell(3, 3), 0);
        Check.due("state(5)", g.state(5), 0);
        Check.due("digest()", g.digest(), newDigest(4, 4));
    }

    private static void plate() {
        Check.of("2 plate");
        GlassWires g = new GlassWires();
        Check.due("plate(2, 8)", g.plate(2, 8), 16);
        Check.due("digest()", g.digest(), newDigest(2, 8));
        Check.due("plate(8, 8)", g.plate(8, 8), 64);
        Check.due("plate(2, 2)", g.plate(2, 2), 4);
        int[][] bad = {{1, 4}, {9, 4}, {4, 1}, {4, 9}, {LOW, 4}, {4, LOW}, {TOP, 4}, {4, TOP}, {0, 0}, {-3, -3}};
        for (int[] side : bad) {
            Check.due("plate(" + side[0] + ", " + side[1] + ")", g.plate(side[0], side[1]), OUTSIDE);
        }
        Check.due("a refusal changes nothing", g.digest(), newDigest(2, 2));
        plateTakesAway();
        plateForgetsFirings();
    }

    private static void plateTakesAway() {
        GlassWires g = new GlassWires();
        Check.draw(g, 1, 0, "uuuu");
        g.fill(0, 1, 5);
        g.fire(800);
        g.back(3, 12);
        g.rod(9, 2);
        g.colour(1, 0, 640);
        g.foes(1, 2, true);
        g.rule(0, 33);
        g.rule(1, 34);
        g.rule(2, 35);
        Check.write(g, "abc");
        Check.due("plate(4, 3)", g.plate(4, 3), 12);
        Check.due("wires", g.count(1), 0);
        Check.due("cells", g.many(6), 1);
        Check.due("letters stay", g.count(3), 3);
        Check.due("rods", g.count(4), 0);
        Check.due("layers", g.count(5), 0);
        Check.due("pull(1)", g.pull(1), 0);
        Check.due("firings go with the glass", g.state(5), 0);
        Check.due("HEAT stays", g.colour(1, 0, 700), 640);
        Check.due("foes stay", g.foes(2, 1, false), 1);
        Check.due("WALL stays", g.rule(0, 20), 33);
        Check.due("STIFF stays", g.rule(1, 20), 34);
        Check.due("BEAR stays", g.rule(2, 50), 35);
        g.blank();
        g.plate(4, 4);
        Check.due("no layer is left", g.layer(0, 0, 0, 0), NONE);
        Check.due("a new wire is number 0", Check.draw(g, 0, 0, "r"), 0);
        Check.due("a new kind of rods is number 0", g.rod(1, 1), 0);
    }

    /** Told by state and by digest, also where there was no glass to fire. */
    private static void plateForgetsFirings() {
        GlassWires g = new GlassWires();
        g.fire(1);
        g.fire(999);
        g.plate(2, 9);
        Check.due("a refused plate keeps the firings", g.state(5), 2);
        g.empty(0);
        Check.due("so does a cell that is emptied", g.state(5), 2);
        Check.due("plate(2, 2)", g.plate(2, 2), 4);
        Check.due("firings behind a plate", g.state(5), 0);
        Check.due("as on a new object", g.digest(), newDigest(2, 2));
        g.fire(1);
        Check.due("they are counted from 0 again", g.state(5), 1);
    }

    private static void letters() {
        Check.of("3 letters");
        GlassWires g = new GlassWires();
        Check.due("none", g.letters(0), 0);
        Check.due("two", g.letters(Check.packed("ru")), 2);
        Check.due("eight", g.letters(Check.packed("abcdefgh")), 10);
        Check.due("code 1", g.letters(1), 11);
        Check.due("code 126", g.letters(126), 12);
        long told = g.digest();
        long[] bad = {127, 128, 255, -1L, Long.MIN_VALUE, Long.MAX_VALUE, 0x7F00000000000000L, 0x610061L,
            0x6100L, 0x6100000000000061L, 0x8061L, 0x6100000000000000L};
        for (long w : bad) {
            Check.due("letters(" + w + ")", g.letters(w), OUTSIDE);
        }
        Check.due("a refusal changes nothing", g.digest(), told);
        g.blank();
        Check.due("38", Check.write(g, "rlrlrlrlrlrlrlrlrlrlrlrlrlrlrlrlrlrlrl"), 38);
        Check.due("3 more", g.letters(Check.packed("abc")), FULL);
        Check.due("still 38", g.count(3), 38);
        Check.due("2 more", g.letters(Check.packed("ab")), 40);
        Check.due("1 more", g.letters('a'), FULL);
        Check.due("none more", g.letters(0), 40);
        Check.due("OUTSIDE comes ahead of FULL", g.letters(127), OUTSIDE);
        lettersInOrder();
    }

    private static void lettersInOrder() {
        GlassWires g = new GlassWires();
        long h = g.digest();
        g.letters(Check.packed("ab"));
        g.letters('c');
        for (char letter : "abc".toCharArray()) {
            h = 31 * h + letter;
        }
        Check.due("letters come behind, the lowest byte first", g.digest(), h);
    }

    private static void blank() {
        Check.of("4 blank");
        GlassWires g = new GlassWires();
        long told = g.digest();
        Check.due("blank()", g.blank(), 0);
        Check.write(g, "rrrrrrrrrr");
        Check.due("blank()", g.blank(), 10);
        Check.due("count(3)", g.count(3), 0);
        Check.due("digest()", g.digest(), told);
    }

    private static void good() {
        Check.of("5 good");
        GlassWires g = new GlassWires();
        Check.write(g, "rrrr");
        Check.due("all", g.good(0, 0), 4);
        Check.due("until the rim", g.good(1, 0), 3);
        Check.due("at the rim", g.good(4, 4), 0);
        Check.due("the page stays", g.count(3), 4);
        int[][] bad = {{-1, 0}, {0, -1}, {5, 0}, {0, 5}, {LOW, 0}, {0, TOP}, {TOP, TOP}};
        for (int[] at : bad) {
            Check.due("good(" + at[0] + ", " + at[1] + ")", g.good(at[0], at[1]), UNKNOWN);
        }
        Check.due("each way", goodOf("rudl"), 4);
        Check.due("down first", goodOf("dr"), 0);
        Check.due("left first", goodOf("lr"), 0);
        Check.due("no move stops", goodOf("ruxr"), 2);
        Check.due("great letters are none", goodOf("RU"), 0);
        Check.due("24", goodOf("rlrlrlrlrlrlrlrlrlrlrlrl"), 24);
        Check.due("24 at most", goodOf("rlrlrlrlrlrlrlrlrlrlrlrlrlrl"), 24);
    }

    private static int goodOf(String letters) {
        GlassWires g = new GlassWires();
        Check.write(g, letters);
        return g.good(0, 0);
    }

    private static void wire() {
        Check.of("6 wire");
        GlassWires g = new GlassWires();
        Check.due("of an empty page", g.wire(0, 0), STATE);
        Check.due("UNKNOWN comes first", g.wire(5, 0), UNKNOWN);
        Check.due("wire(-1, 0)", g.wire(-1, 0), UNKNOWN);
        Check.due("wire(0, TOP)", g.wire(0, TOP), UNKNOWN);
        Check.due("a letter that is no move", Check.draw(g, 0, 0, "rx"), STATE);
        Check.due("the page stays", g.count(3), 2);
        Check.due("over the rim", Check.draw(g, 3, 0, "rr"), STATE);
        Check.due("25 moves", Check.draw(g, 0, 0, "rlrlrlrlrlrlrlrlrlrlrlrlr"), STATE);
        Check.due("24 moves", Check.draw(g, 0, 0, "rlrlrlrlrlrlrlrlrlrlrlrl"), 0);
        Check.due("the page is empty", g.count(3), 0);
        Check.due("1 move", Check.draw(g, 4, 4, "l"), 1);
        for (int i = 2; i < 30; i++) {
            Check.due("wire " + i, Check.draw(g, 0, 0, "ru"), i);
        }
        Check.due("STATE comes ahead of FULL", Check.draw(g, 0, 0, "x"), STATE);
        Check.due("31st", Check.draw(g, 0, 0, "ru"), FULL);
        Check.due("the page stays", g.count(3), 2);
        Check.due("count(1)", g.count(1), 30);
        Check.due("laid at first", g.count(2), 30);
    }

    private static void lay() {
        Check.of("7 lay");
        GlassWires g = new GlassWires();
        Check.due("of none", g.lay(0, true), UNKNOWN);
        Check.draw(g, 2, 0, "uuuu");
        Check.due("cells", g.many(6), 2);
        Check.due("lift", g.lay(0, false), 1);
        Check.due("cells", g.many(6), 1);
        Check.due("count(2)", g.count(2), 0);
        Check.due("count(1)", g.count(1), 1);
        Check.due("lift again", g.lay(0, false), 0);
        Check.due("lay", g.lay(0, true), 0);
        Check.due("lay again", g.lay(0, true), 1);
        Check.due("cells", g.many(6), 2);
        Check.due("lay(1)", g.lay(1, true), UNKNOWN);
        Check.due("lay(-1)", g.lay(-1, true), UNKNOWN);
        Check.due("lay(TOP)", g.lay(TOP, false), UNKNOWN);
        Check.due("lay(LOW)", g.lay(LOW, false), UNKNOWN);
    }

    private static void solder() {
        Check.of("8 solder");
        GlassWires g = new GlassWires();
        Check.due("of none", g.solder(0, true), UNKNOWN);
        Check.draw(g, 2, 0, "uuuu");
        Check.due("not at first", g.solder(0, false), 0);
        Check.due("solder", g.solder(0, true), 0);
        Check.due("solder again", g.solder(0, true), 1);
        Check.due("not", g.solder(0, false), 1);
        Check.due("solder(1)", g.solder(1, true), UNKNOWN);
        Check.due("solder(-1)", g.solder(-1, true), UNKNOWN);
        Check.due("solder(LOW)", g.solder(LOW, true), UNKNOWN);
        Check.due("solder(TOP)", g.solder(TOP, true), UNKNOWN);
        g.solder(0, true);
        g.plate(4, 4);
        Check.draw(g, 2, 0, "uuuu");
        Check.due("a new wire is not", g.solder(0, true), 0);
    }

    private static void about() {
        Check.of("9 about");
        GlassWires g = new GlassWires();
        Check.draw(g, 1, 1, "rrul");
        aboutIs(g, 0, 4, 2, 1, 4, 0);
        Check.draw(g, 0, 0, "rl");
        aboutIs(g, 1, 2, 1, 1, 1, 0);
        Check.draw(g, 0, 4, "rrr");
        aboutIs(g, 2, 3, 0, 0, 3, 1);
        Check.draw(g, 0, 3, "rrrr");
        Check.draw(g, 0, 1, "ruldru");
        aboutIs(g, 4, 6, 5, 1, 4, 0);
        g.lay(2, false);
        aboutIs(g, 2, 3, 0, 0, 3, 0);
        g.lay(0, false);
        aboutIs(g, 0, 4, 2, 1, 4, 0);
        Check.due("about(0, 5)", g.about(0, 5), OUTSIDE);
        Check.due("about(0, -1)", g.about(0, -1), OUTSIDE);
        Check.due("about(0, LOW)", g.about(0, LOW), OUTSIDE);
        Check.due("about(5, 0)", g.about(5, 0), UNKNOWN);
        Check.due("about(-1, 9)", g.about(-1, 9), UNKNOWN);
        Check.due("about(TOP, 0)", g.about(TOP, 0), UNKNOWN);
    }

    private static void aboutIs(GlassWires g, int wire, int... answers) {
        for (int what = 0; what < answers.length; what++) {
            Check.due("about(" + wire + ", " + what + ")", g.about(wire, what), answers[what]);
        }
    }

    private static void floating() {
        Check.of("9 about: floats");
        GlassWires g = new GlassWires();
        g.plate(8, 8);
        Check.draw(g, 1, 1, "rr");
        Check.draw(g, 2, 1, "uuu");
        Check.draw(g, 1, 4, "rrr");
        Check.draw(g, 6, 6, "r");
        Check.due("none stands", g.many(3), 4);
        Check.draw(g, 4, 4, "ur");
        floatingIs(g, 0, 0, 0, 1, 0);
        Check.due("one is far", g.many(3), 1);
        g.lay(1, false);
        floatingIs(g, 1, 0, 0, 1, 0);
        g.lay(1, true);
        g.lay(4, false);
        floatingIs(g, 1, 1, 1, 1, 0);
        Check.due("the one that stands is lifted", g.many(3), 4);
    }

    private static void floatingIs(GlassWires g, int... answers) {
        for (int wire = 0; wire < answers.length; wire++) {
            Check.due("about(" + wire + ", 4)", g.about(wire, 4), answers[wire]);
        }
    }

    private static void point() {
        Check.of("10 point");
        GlassWires g = new GlassWires();
        Check.due("of none", g.point(0, 0), UNKNOWN);
        Check.draw(g, 1, 1, "rruld");
        int[] points = {11, 12, 13, 23, 22, 12};
        for (int i = 0; i < points.length; i++) {
            Check.due("point(0, " + i + ")", g.point(0, i), points[i]);
        }
        Check.due("point(0, 6)", g.point(0, 6), NONE);
        Check.due("point(0, -1)", g.point(0, -1), NONE);
        Check.due("point(0, TOP)", g.point(0, TOP), NONE);
        Check.due("point(0, LOW)", g.point(0, LOW), NONE);
        Check.due("point(1, 0)", g.point(1, 0), UNKNOWN);
        Check.due("point(-1, -1)", g.point(-1, -1), UNKNOWN);
        g.lay(0, false);
        Check.due("of a lifted one", g.point(0, 1), 12);
        g.plate(8, 8);
        Check.draw(g, 8, 8, "l");
        Check.due("the last corner", g.point(0, 0), 88);
        Check.due("beside it", g.point(0, 1), 87);
    }

    private static void covers() {
        Check.of("11 covers");
        GlassWires g = new GlassWires();
        Check.due("(3, 0, 0)", g.covers(3, 0, 0), 0);
        Check.due("(0, 4, 0)", g.covers(0, 4, 0), 0);
        Check.due("(4, 3, 1)", g.covers(4, 3, 1), 0);
        int[][] none = {{4, 0, 0}, {0, 4, 1}, {5, 0, 1}, {0, 5, 0}, {-1, 0, 0}, {0, -1, 1}, {0, 0, 2}, {0, 0, -1},
            {0, 0, 3}, {TOP, 0, 0}, {0, TOP, 1}, {LOW, LOW, LOW}};
        for (int[] e : none) {
            Check.due("(" + e[0] + ", " + e[1] + ", " + e[2] + ")", g.covers(e[0], e[1], e[2]), UNKNOWN);
        }
        Check.draw(g, 2, 2, "lrldu");
        Check.due("one wire counts once", g.covers(1, 2, 0), 1);
        Check.due("a move down", g.covers(1, 1, 1), 1);
        Check.due("its other side", g.covers(1, 2, 1), 0);
        Check.draw(g, 0, 2, "rrrr");
        Check.due("two wires", g.covers(1, 2, 0), 2);
        Check.due("one of them", g.covers(3, 2, 0), 1);
        g.lay(0, false);
        Check.due("lifted ones do not", g.covers(1, 2, 0), 1);
        g.lay(1, false);
        Check.due("none is laid", g.covers(1, 2, 0), 0);
    }

    private static void many() {
        Check.of("12 many");
        GlassWires g = new GlassWires();
        manyIs(g, 0, 0, 0, 0, 0, 0, 1, 16);
        Check.draw(g, 2, 0, "uuuu");
        manyIs(g, 0, 0, 0, 1, 4, 1, 2, 8);
        Check.draw(g, 2, 2, "rr");
        manyIs(g, 0, 1, 0, 2, 6, 2, 3, 8);
        Check.draw(g, 1, 1, "r");
        manyIs(g, 1, 2, 0, 3, 7, 3, 3, 8);
        Check.draw(g, 2, 1, "uu");
        manyIs(g, 1, 3, 2, 4, 7, 3, 3, 8);
        Check.draw(g, 0, 0, "ru");
        manyIs(g, 0, 4, 2, 0, 9, 3, 4, 7);
        g.lay(0, false);
        manyIs(g, 1, 3, 0, 0, 7, 2, 2, 11);
        Check.due("many(8)", g.many(8), OUTSIDE);
        Check.due("many(-1)", g.many(-1), OUTSIDE);
        Check.due("many(LOW)", g.many(LOW), OUTSIDE);
        Check.due("many(TOP)", g.many(TOP), OUTSIDE);
    }

    private static void manyIs(GlassWires g, int... answers) {
        for (int what = 0; what < answers.length; what++) {
            Check.due(g.count(1) + " wires: many(" + what + ")", g.many(what), answers[what]);
        }
    }

    private static void pieces() {
        Check.of("12 many: pieces");
        GlassWires g = new GlassWires();
        Check.draw(g, 0, 0, "ruld");
        Check.due("a ring", g.many(5), 1);
        Check.draw(g, 2, 2, "ruld");
        Check.due("two rings", g.many(5), 2);
        Check.draw(g, 1, 1, "ru");
        Check.due("joined", g.many(5), 1);
        Check.draw(g, 4, 0, "u");
        Check.due("and a far one", g.many(5), 2);
        Check.draw(g, 2, 1, "rd");
        Check.due("four odd points", g.many(5), 3);
        Check.draw(g, 1, 1, "u");
        Check.due("four others", g.many(5), 3);
        Check.draw(g, 2, 2, "l");
        Check.due("two odd points", g.many(5), 2);
        Check.draw(g, 2, 1, "l");
        Check.due("an edge twice", g.many(5), 2);
    }

    private static void end() {
        Check.of("13 end");
        GlassWires g = new GlassWires();
        Check.due("no free end", g.end(0, 0), NONE);
        Check.due("no joint", g.end(1, 0), NONE);
        Check.draw(g, 3, 1, "u");
        Check.draw(g, 1, 2, "u");
        Check.draw(g, 1, 1, "d");
        endsAre(g, 0, 11, 13, 21, 23, 31, NONE);
        endsAre(g, 1, NONE);
        Check.draw(g, 1, 1, "rrr");
        Check.draw(g, 1, 0, "r");
        endsAre(g, 0, 21, 23, 31, NONE);
        endsAre(g, 1, 1, 11, 13, NONE);
        Check.due("end(0, -1)", g.end(0, -1), NONE);
        Check.due("end(1, LOW)", g.end(1, LOW), NONE);
        Check.due("end(1, TOP)", g.end(1, TOP), NONE);
        Check.due("end(2, 0)", g.end(2, 0), OUTSIDE);
        Check.due("end(-1, 0)", g.end(-1, 0), OUTSIDE);
        Check.due("end(TOP, 99)", g.end(TOP, 99), OUTSIDE);
    }

    private static void endsAre(GlassWires g, int sort, int... answers) {
        for (int i = 0; i < answers.length; i++) {
            Check.due("end(" + sort + ", " + i + ")", g.end(sort, i), answers[i]);
        }
    }

    private static void cellAndSize() {
        Check.of("14 cell");
        GlassWires g = new GlassWires();
        g.plate(3, 4);
        Check.draw(g, 1, 1, "ruuldd");
        Check.draw(g, 0, 3, "rrr");
        int[][] due = {{0, 0, 0}, {0, 4, 0}, {0, 4, 0}, {9, 9, 9}};
        for (int y = 0; y < 4; y++) {
            for (int x = 0; x < 3; x++) {
                Check.due("cell(" + x + ", " + y + ")", g.cell(x, y), due[y][x]);
            }
        }
        int[][] bad = {{3, 0}, {0, 4}, {-1, 0}, {0, -1}, {TOP, 0}, {0, LOW}};
        for (int[] at : bad) {
            Check.due("cell(" + at[0] + ", " + at[1] + ")", g.cell(at[0], at[1]), UNKNOWN);
        }
        Check.of("15 size");
        Check.due("size(0)", g.size(0), 7);
        Check.due("size(4)", g.size(4), 2);
        Check.due("size(9)", g.size(9), 3);
        int[] none = {1, 2, 3, 7, 11, 12, 63, 64, -1, LOW, TOP};
        for (int cell : none) {
            Check.due("size(" + cell + ")", g.size(cell), UNKNOWN);
        }
    }

    private static void paints() {
        Check.of("16 paints, 17 paint");
        GlassWires g = new GlassWires();
        Check.due("one cell", g.paints(), 1);
        Check.due("its paint", g.paint(0), 0);
        g.plate(3, 3);
        Check.draw(g, 1, 1, "ruld");
        Check.due("a ring and its middle", g.paints(), 2);
        Check.due("the middle", g.paint(4), 1);
        Check.draw(g, 2, 0, "u");
        Check.draw(g, 0, 1, "r");
        Check.due("the ring in two", g.paints(), 3);
        Check.draw(g, 2, 2, "u");
        Check.due("the ring in three", g.paints(), 4);
        int[][] due = {{0, 0}, {2, 1}, {3, 2}, {4, 3}};
        for (int[] one : due) {
            Check.due("paint(" + one[0] + ")", g.paint(one[0]), one[1]);
        }
        Check.due("paint(1)", g.paint(1), UNKNOWN);
        Check.due("paint(-1)", g.paint(-1), UNKNOWN);
        Check.due("paint(TOP)", g.paint(TOP), UNKNOWN);
        tenCellsAtMost();
    }

    private static void tenCellsAtMost() {
        GlassWires g = new GlassWires();
        g.plate(5, 3);
        Check.draw(g, 0, 1, "rrrrr");
        for (int x = 1; x < 5; x++) {
            Check.draw(g, x, 0, "u");
        }
        for (int x = 1; x < 5; x++) {
            Check.draw(g, x, 1, "uu");
        }
        Check.due("ten cells", g.many(6), 10);
        Check.due("paints()", g.paints(), 2);
        for (int x = 0; x < 5; x++) {
            Check.due("paint(" + x + ")", g.paint(x), x % 2);
            Check.due("paint(" + (5 + x) + ")", g.paint(5 + x), (x + 1) % 2);
        }
        Check.draw(g, 0, 2, "r");
        Check.due("eleven cells", g.many(6), 11);
        Check.due("paints()", g.paints(), STATE);
        Check.due("paint(0)", g.paint(0), STATE);
        Check.due("UNKNOWN comes first", g.paint(11), UNKNOWN);
        g.lay(0, false);
        Check.due("fewer cells again", g.paints(), 3);
    }
}
