/**
 * The second part of "Terms" and promises 18 to 30: each sentence that names a boundary case has a
 * test of its own here, which bears the sentence's words.
 */
public final class GlassBoundsTest {
    private static final int LOW = Integer.MIN_VALUE, TOP = Integer.MAX_VALUE;
    private static final int NONE = GlassWires.NONE, UNKNOWN = GlassWires.UNKNOWN;
    private static final int OUTSIDE = GlassWires.OUTSIDE, FULL = GlassWires.FULL;
    private static final int RAW = 0, FIRED = 1, BURNT = 2;

    public static void main(String[] args) {
        termsOfColours();
        termsOfLayers();
        termsOfFirings();
        termsOfRunningOver();
        termsOfBleeding();
        termsOfFillsAndPlans();
        promisesOfColoursAndRules();
        promisesOfGlass();
        promisesOfFirings();
        promisesOfPlans();
        Check.end();
    }

    private static void termsOfColours() {
        coloursAreEight();
        heatIsOneTo900();
        shrinkIsNoneToNine();
        pullIsNoneTo99();
        notFoesAtFirst();
    }

    private static void termsOfLayers() {
        twelveLayersAtMost();
        thickIsOneTo99();
        highIsTheThickOfAll();
        wallIsOneTo99();
    }

    private static void termsOfFirings() {
        firingsAtOneTo999();
        rawOnesOfHeatAtMostT();
        shrinkingIsRoundedDown();
        onlyRawOnesShrink();
        burntAboveHeatAnd50();
        ripeAndBurntInOneFiring();
    }

    private static void termsOfRunningOver() {
        runsOverAboveWall();
        runsOverBesideOneBelowWall();
        runsOverOnlyWhereItIsNotOpen();
        runsOverToFieldsBesideIt();
        runsOverByHighBehindTheFiring();
        theUpmostLayerLosesWhatIsAbove();
        orAllThatItHas();
    }

    private static void termsOfBleeding() {
        bleedsBetweenTwoFields();
        bleedsByUpmostLayersOfBoth();
        emptyFieldsBesideFullOnesDoNotBleed();
        bleedsWhereNoSolderedWireCovers();
    }

    private static void termsOfFillsAndPlans() {
        fillsUntilWallLessOne();
        inReachFromHeatToHeatAnd50();
        soManyMoreAsLack();
        noHeatAboveTheOneAhead();
    }

    private static void promisesOfColoursAndRules() {
        colourOfNoneIsUnknown();
        colourRefusedInOrder();
        foesOfNoneAreUnknown();
        foesOfTheSame();
        ruleOfNoneIsUnknown();
        stiffIsOneTo99();
        bearIsOneTo999();
    }

    private static void promisesOfGlass() {
        fillTellsHowManyFields();
        fillOfNoCellOrColour();
        fillTooThinOrTooThick();
        fillWhereSomeFieldHasTwelve();
        fillRefusedInOrder();
        emptyTellsHowManyWent();
        emptyOfNoCell();
        fieldOfNone();
        fieldOfWhatIsNot();
        layerThatThereIsNot();
        layerOfNoField();
        layerOfWhatIsNot();
    }

    private static void promisesOfFirings() {
        aRefusedFireIsNoFiring();
        fireWithoutGlass();
        polishOfNothing();
        polishTakesAllAboveWall();
        polishTakesLayersOfWhichNothingIsLeft();
        stateOfWhatIsNot();
        stateOfLayersInOneField();
        stateOfFieldsAtWall();
        firingsAreCounted();
    }

    private static void promisesOfPlans() {
        fillsOfNoColour();
        planOfNoColours();
        planOfAllColours();
        planOfWhatIsNot();
        heatsFromTheHottestToTheLast();
        heatOfWhatIsNot();
    }

    /** 2 by 2 fields, a wire between the left cell (0) and the right cell (1). */
    private static GlassWires twoCells() {
        GlassWires g = Check.plateOf(2, 2);
        Check.draw(g, 1, 0, "uu");
        return g;
    }

    private static void layerIs(GlassWires g, String when, int i, int... answers) {
        for (int what = 0; what < answers.length; what++) {
            Check.due(when + ": layer(0, 0, " + i + ", " + what + ")", g.layer(0, 0, i, what), answers[what]);
        }
    }

    // ---- terms: colours

    private static void coloursAreEight() {
        Check.of("COLOURS 0 to 7");
        GlassWires g = new GlassWires();
        for (int colour = -1; colour <= 8; colour++) {
            boolean is = colour >= 0 && colour <= 7;
            Check.due("fills(" + colour + ")", g.fills(colour), is ? 2 : UNKNOWN);
            Check.due("straight(" + colour + ")", g.straight(colour), is ? 0 : UNKNOWN);
            Check.due("fill(0, " + colour + ", 1)", g.fill(0, colour, 1), is ? 16 : UNKNOWN);
            Check.due("safe(0, " + colour + ", 0)", g.safe(0, colour, 0), is ? 700 : UNKNOWN);
        }
    }

    /** Each colour's trait at its ends, and just beyond: what it was is told, and nothing else changes. */
    private static void traitIs(int what, int first, int least, int most) {
        for (int colour = 0; colour < 8; colour++) {
            GlassWires g = new GlassWires();
            int c = colour;
            Check.due("at first", g.colour(colour, what, least), first);
            Check.due("the least", g.colour(colour, what, most), least);
            Check.keepsEach(g, "v", OUTSIDE, v -> g.colour(c, what, v), least - 1, most + 1, LOW, TOP);
            Check.due("the most", g.colour(colour, what, first), most);
            Check.due("as a new object", g.digest(), WiresTest.newDigest(4, 4));
        }
    }

    private static void heatIsOneTo900() {
        Check.of("a HEAT (1 to 900; 700 at first)");
        traitIs(0, 700, 1, 900);
    }

    private static void shrinkIsNoneToNine() {
        Check.of("a SHRINK (0 to 9 tenths; 3 at first)");
        traitIs(1, 3, 0, 9);
    }

    private static void pullIsNoneTo99() {
        Check.of("a PULL (0 to 99; 10 at first)");
        traitIs(2, 10, 0, 99);
    }

    private static void notFoesAtFirst() {
        Check.of("two are FOES, or not (at first)");
        for (int a = 0; a < 8; a++) {
            for (int b = 0; b < 8; b++) {
                if (a != b) {
                    GlassWires g = new GlassWires();
                    Check.due("foes(" + a + ", " + b + ") at first", g.foes(a, b, true), 0);
                    Check.due("foes(" + b + ", " + a + ") now", g.foes(b, a, false), 1);
                    Check.due("no more", g.digest(), WiresTest.newDigest(4, 4));
                }
            }
        }
    }

    // ---- terms: layers

    private static void twelveLayersAtMost() {
        Check.of("A FIELD has LAYERS of glass (12 at most)");
        GlassWires g = twoCells();
        for (int i = 0; i < 12; i++) {
            Check.due("layer " + i, g.fill(0, i % 8, i + 1), 2);
        }
        Check.keeps(g, "the 13th", FULL, () -> g.fill(0, 0, 1));
        layerIs(g, "the lowest", 0, 0, 1, RAW);
        layerIs(g, "the upmost", 11, 3, 12, RAW);
        Check.due("field(0, 1, 1)", g.field(0, 1, 1), 12);
        Check.due("the other cell", g.field(1, 0, 1), 0);
        g.rule(0, 66);
        g.polish();
        Check.due("a layer that goes makes room", g.fill(0, 0, 1), 2);
    }

    private static void thickIsOneTo99() {
        Check.of("THICK (1 to 99)");
        GlassWires g = twoCells();
        for (int v = -1; v <= 101; v++) {
            boolean is = v >= 1 && v <= 99;
            Check.due("fill(0, 0, " + v + ")", g.fill(0, 0, v), is ? 2 : OUTSIDE);
            Check.due("what is there", g.field(0, 0, 0), is ? v : 0);
            g.empty(0);
        }
    }

    private static void highIsTheThickOfAll() {
        Check.of("HIGH: THICK of all");
        GlassWires g = twoCells();
        Check.due("of none", g.field(0, 0, 0), 0);
        for (int i = 1; i <= 12; i++) {
            g.fill(0, i % 8, 99);
            Check.due("of " + i, g.field(0, 0, 0), 99 * i);
        }
    }

    private static void wallIsOneTo99() {
        Check.of("WALL (1 to 99; 20 at first)");
        ruleIs(0, 20, 99);
    }

    private static void ruleIs(int which, int first, int most) {
        GlassWires g = new GlassWires();
        Check.due("at first", g.rule(which, 1), first);
        Check.due("the least", g.rule(which, most), 1);
        Check.keepsEach(g, "v", OUTSIDE, v -> g.rule(which, v), 0, -1, most + 1, LOW, TOP);
        Check.due("the most", g.rule(which, first), most);
        Check.due("as a new object", g.digest(), WiresTest.newDigest(4, 4));
    }

    // ---- terms: firings

    private static void firingsAtOneTo999() {
        Check.of("A FIRING at t (1 to 999)");
        GlassWires g = twoCells();
        g.colour(0, 0, 1);
        g.fill(0, 0, 5);
        Check.keepsEach(g, "fire", OUTSIDE, g::fire, 0, -1, 1000, LOW, TOP);
        Check.due("fire(1)", g.fire(1), 2);
        g.fill(0, 1, 5);
        Check.due("fire(999)", g.fire(999), 2);
    }

    private static void rawOnesOfHeatAtMostT() {
        Check.of("each raw LAYER whose COLOUR's HEAT is at most t becomes fired");
        int[] heats = {2, 500, 900};
        for (int heat : heats) {
            GlassWires g = twoCells();
            g.colour(0, 0, heat);
            g.fill(0, 0, 10);
            Check.due("just below", g.fire(heat - 1), 0);
            layerIs(g, "raw", 0, 0, 10, RAW);
            Check.due("just at it", g.fire(heat), 2);
            layerIs(g, "fired", 0, 0, 7, FIRED);
        }
    }

    private static void shrinkingIsRoundedDown() {
        Check.of("its THICK less by SHRINK tenths of it, rounded down");
        for (int shrink = 0; shrink <= 9; shrink++) {
            GlassWires g = Check.plateOf(2, 2);
            g.colour(0, 1, shrink);
            for (int thick = 1; thick <= 99; thick++) {
                g.fill(0, 0, thick);
                g.fire(700);
                int gone = (thick * shrink - thick * shrink % 10) / 10;
                Check.due(thick + " less " + shrink + " tenths", g.layer(0, 0, 0, 1), thick - gone);
                g.empty(0);
            }
        }
    }

    private static void onlyRawOnesShrink() {
        Check.of("fired and burnt LAYERS do not shrink again");
        GlassWires g = twoCells();
        g.fill(0, 0, 20);
        g.fire(700);
        Check.due("a second firing", g.fire(750), 0);
        layerIs(g, "fired", 0, 0, 14, FIRED);
        Check.due("a third", g.fire(751), 0);
        layerIs(g, "burnt", 0, 0, 14, BURNT);
        Check.due("a fourth", g.fire(999), 0);
        layerIs(g, "still burnt", 0, 0, 14, BURNT);
    }

    private static void burntAboveHeatAnd50() {
        Check.of("each fired LAYER whose COLOUR's HEAT and 50 is below t becomes burnt");
        int[] heats = {1, 500, 900};
        for (int heat : heats) {
            GlassWires g = twoCells();
            g.colour(0, 0, heat);
            g.fill(0, 0, 10);
            g.fire(heat);
            g.fire(heat + 50);
            layerIs(g, "at HEAT and 50", 0, 0, 7, FIRED);
            g.fire(heat + 51);
            layerIs(g, "above", 0, 0, 7, BURNT);
        }
        GlassWires c = twoCells();
        c.fill(0, 0, 10);
        c.fire(700);
        c.colour(0, 0, 900);
        c.fire(950);
        layerIs(c, "by its HEAT as it is now", 0, 0, 7, FIRED);
        c.colour(0, 0, 1);
        c.fire(52);
        layerIs(c, "and now", 0, 0, 7, BURNT);
    }

    private static void ripeAndBurntInOneFiring() {
        Check.of("first raw ones become fired; then fired ones burnt");
        GlassWires g = twoCells();
        g.fill(0, 0, 10);
        g.fill(0, 1, 10);
        g.colour(1, 0, 750);
        Check.due("both became fired", g.fire(751), 4);
        layerIs(g, "the cooler one", 0, 0, 7, BURNT);
        layerIs(g, "the hotter one", 1, 1, 7, FIRED);
    }

    // ---- terms: running over

    /** HIGH of the left field behind a firing that ripens nothing, the right one being so high. */
    private static int leftBeside(int left, int right) {
        GlassWires g = twoCells();
        g.fill(0, 0, left);
        if (right > 0) {
            g.fill(1, 0, right);
        }
        g.fire(1);
        return g.field(0, 0, 0);
    }

    private static void runsOverAboveWall() {
        Check.of("one whose HIGH is above WALL");
        Check.due("19", leftBeside(19, 0), 19);
        Check.due("20", leftBeside(20, 0), 20);
        Check.due("21", leftBeside(21, 0), 20);
        Check.due("99", leftBeside(99, 0), 20);
    }

    private static void runsOverBesideOneBelowWall() {
        Check.of("that has a FIELD beside it with HIGH below WALL");
        Check.due("0", leftBeside(30, 0), 20);
        Check.due("19", leftBeside(30, 19), 20);
        Check.due("20", leftBeside(30, 20), 30);
        Check.due("21", leftBeside(30, 21), 30);
        GlassWires g = twoCells();
        g.rule(0, 1);
        g.fill(0, 0, 2);
        g.fire(1);
        Check.due("WALL 1", g.field(0, 0, 0), 1);
    }

    private static void runsOverOnlyWhereItIsNotOpen() {
        Check.of("a FIELD beside it, not OPEN to it");
        GlassWires g = twoCells();
        g.fill(0, 0, 30);
        g.lay(0, false);
        g.fire(1);
        Check.due("the wire between is lifted", g.field(0, 0, 0), 30);
        g.lay(0, true);
        g.fire(1);
        Check.due("laid again", g.field(0, 0, 0), 20);
        GlassWires c = twoCells();
        c.fill(0, 0, 30);
        c.lay(0, false);
        Check.draw(c, 1, 0, "u");
        c.fire(1);
        Check.due("one cell", c.many(6), 1);
        Check.due("the edge is covered", c.field(0, 0, 0), 20);
        Check.due("this one is not", c.field(0, 1, 0), 30);
    }

    /** Of 3 by 3 cells the middle one, or one at the end of a row, with some beside it that are low. */
    private static void runsOverToFieldsBesideIt() {
        Check.of("a FIELD beside it: to the right, up, left, down, and no other");
        int[] beside = {5, 7, 3, 1};
        for (int low : beside) {
            Check.due("beside 4: " + low, highAmong(4, low), 20);
        }
        int[] cornerwise = {0, 2, 6, 8};
        for (int low : cornerwise) {
            Check.due("cornerwise of 4: " + low, highAmong(4, low), 30);
        }
        Check.due("the next row begins with 3", highAmong(2, 3), 30);
        Check.due("the row below ends with 2", highAmong(3, 2), 30);
        Check.due("the upper row from the lower", highAmong(0, 6), 30);
        Check.due("the lower row from the upper", highAmong(6, 0), 30);
    }

    private static int highAmong(int high, int low) {
        GlassWires g = Check.gridOf(3, 3);
        for (int cell = 0; cell < 9; cell++) {
            g.fill(cell, 0, cell == high ? 30 : cell == low ? 19 : 20);
        }
        g.fire(1);
        return g.field(high % 3, high / 3, 0);
    }

    private static void runsOverByHighBehindTheFiring() {
        Check.of("FIELDS RUN OVER, all by HIGH as it is now");
        GlassWires g = twoCells();
        g.fill(0, 0, 28);
        g.fire(700);
        Check.due("28 shrinks to 20", g.field(0, 0, 0), 20);
        GlassWires s = twoCells();
        s.fill(0, 0, 29);
        s.fire(700);
        Check.due("29 shrinks to 21, 1 runs over", s.field(0, 0, 0), 20);
        GlassWires r = twoCells();
        r.colour(1, 0, 900);
        r.fill(0, 1, 30);
        r.fill(1, 0, 27);
        r.fire(700);
        Check.due("the other shrinks to 19", r.field(1, 0, 0), 19);
        Check.due("so this runs over", r.field(0, 0, 0), 20);
    }

    private static void theUpmostLayerLosesWhatIsAbove() {
        Check.of("its upmost LAYER loses what HIGH is above WALL");
        GlassWires g = twoCells();
        g.fill(0, 0, 15);
        g.fill(0, 1, 10);
        g.fire(1);
        layerIs(g, "below it", 0, 0, 15, RAW);
        layerIs(g, "the upmost", 1, 1, 5, RAW);
        GlassWires one = twoCells();
        one.fill(0, 0, 19);
        one.fill(0, 1, 2);
        one.fire(1);
        layerIs(one, "1 is left", 1, 1, 1, RAW);
    }

    private static void orAllThatItHas() {
        Check.of("or all that it has, if this is less (it goes, then)");
        GlassWires g = twoCells();
        g.fill(0, 0, 30);
        g.fill(0, 1, 5);
        g.fire(1);
        Check.due("LAYERS", g.field(0, 0, 1), 1);
        layerIs(g, "the one below stays as it is", 0, 0, 30, RAW);
        g.fire(1);
        Check.due("the next firing", g.field(0, 0, 0), 20);
        GlassWires just = twoCells();
        just.fill(0, 0, 20);
        just.fill(0, 1, 5);
        just.fire(1);
        Check.due("it has just what is above", just.field(0, 0, 1), 1);
        layerIs(just, "no layer of 0", 1, NONE, NONE, NONE);
    }

    // ---- terms: bleeding

    private static void bleedsBetweenTwoFields() {
        Check.of("BLEEDING: EDGES between two FIELDS");
        GlassWires g = Check.gridOf(3, 2);
        g.foes(1, 2, true);
        g.fill(2, 1, 5);
        g.fill(3, 2, 5);
        Check.due("the end of a row and the next row's beginning", g.state(4), 0);
        g.fill(5, 2, 5);
        Check.due("one above the other", g.state(4), 1);
        g.fill(1, 2, 5);
        Check.due("one left of the other", g.state(4), 2);
        GlassWires all = Check.gridOf(8, 8);
        all.foes(0, 1, true);
        for (int field = 0; field < 64; field++) {
            all.fill(field, (field + field / 8) % 2, 1);
        }
        Check.due("all 112", all.state(4), 112);
        for (int wire = 0; wire < 14; wire++) {
            all.lay(wire, false);
        }
        Check.due("in one cell too", all.state(4), 112);
    }

    private static void bleedsByUpmostLayersOfBoth() {
        Check.of("whose upmost LAYERS (of both) are of COLOURS that are FOES");
        GlassWires g = twoCells();
        g.foes(1, 2, true);
        Check.due("no glass", g.state(4), 0);
        g.fill(0, 1, 5);
        Check.due("glass on one side", g.state(4), 0);
        g.fill(1, 2, 5);
        Check.due("on both", g.state(4), 2);
        g.fill(1, 3, 5);
        Check.due("covered on one side", g.state(4), 0);
        g.fill(1, 2, 5);
        Check.due("and again on it", g.state(4), 2);
        g.fill(0, 2, 5);
        Check.due("the same on both", g.state(4), 0);
        g.empty(0);
        Check.due("emptied", g.state(4), 0);
    }

    private static void emptyFieldsBesideFullOnesDoNotBleed() {
        Check.of("upmost LAYERS (of both): one field has 12, the next none");
        GlassWires g = Check.gridOf(2, 2);
        g.foes(1, 2, true);
        for (int i = 0; i < 12; i++) {
            g.fill(0, 1, 1);
        }
        g.fill(3, 2, 1);
        Check.due("state(4)", g.state(4), 0);
        g.fill(1, 1, 1);
        Check.due("one that is there", g.state(4), 1);
        g.empty(1);
        Check.due("taken out", g.state(4), 0);
    }

    private static void bleedsWhereNoSolderedWireCovers() {
        Check.of("and which no SOLDERED WIRE COVERS");
        GlassWires g = twoCells();
        Check.draw(g, 1, 1, "u");
        g.foes(1, 2, true);
        g.fill(0, 1, 5);
        g.fill(1, 2, 5);
        Check.due("none is soldered", g.state(4), 2);
        g.solder(1, true);
        Check.due("one of two on an edge", g.state(4), 1);
        g.solder(0, true);
        Check.due("both", g.state(4), 0);
        g.lay(0, false);
        Check.due("a lifted one covers nothing", g.state(4), 1);
        g.solder(1, false);
        Check.due("no more", g.state(4), 2);
    }

    // ---- terms: fills and plans

    private static void fillsUntilWallLessOne() {
        Check.of("FILLS: what lacks to WALL is filled, again and again, until WALL less 1 is come to");
        int[][] due = {{1, 0, 0}, {1, 9, 0}, {2, 0, 1}, {2, 9, 1}, {3, 6, 1}, {3, 7, 2}, {10, 0, 1}, {10, 1, 1},
            {10, 2, 2}, {10, 9, 9}, {20, 0, 1}, {20, 3, 2}, {20, 9, 14}, {99, 0, 1}, {99, 9, 27}};
        for (int[] one : due) {
            GlassWires g = new GlassWires();
            g.rule(0, one[0]);
            g.colour(7, 1, one[1]);
            Check.due("WALL " + one[0] + ", SHRINK " + one[1], g.fills(7), one[2]);
        }
    }

    /** Two colours, so far from one another in HEAT: how many firings. */
    private static int firingsApart(int apart) {
        GlassWires g = new GlassWires();
        g.colour(0, 0, 400 + apart);
        g.colour(1, 0, 400);
        return g.plan(3);
    }

    private static void inReachFromHeatToHeatAnd50() {
        Check.of("a COLOUR may be filled ahead of those that are its HEAT at least and its HEAT and 50 at most");
        Check.due("of like HEAT", firingsApart(0), 2);
        Check.due("1 apart", firingsApart(1), 2);
        Check.due("50 apart", firingsApart(50), 2);
        Check.due("51 apart", firingsApart(51), 4);
    }

    private static void soManyMoreAsLack() {
        Check.of("if HEATS in its reach are fewer than it needs, so many more at its HEAT and 50");
        GlassWires g = new GlassWires();
        g.colour(0, 0, 400);
        g.colour(1, 0, 440);
        g.colour(1, 1, 5);
        heatsAre(g, 3, 490, 490, 450, 450, NONE);
        g.colour(1, 1, 3);
        heatsAre(g, 3, 450, 450, NONE);
        g.colour(1, 1, 0);
        heatsAre(g, 3, 450, 450, NONE);
        g.colour(1, 1, 4);
        heatsAre(g, 3, 490, 450, 450, NONE);
        g.colour(0, 1, 5);
        g.colour(1, 0, 400);
        heatsAre(g, 3, 450, 450, 450, 450, NONE);
    }

    private static void heatsAre(GlassWires g, int colours, int... heats) {
        Check.due("plan(" + colours + ")", g.plan(colours), heats.length - 1);
        for (int i = 0; i < heats.length; i++) {
            Check.due("heat(" + colours + ", " + i + ")", g.heat(colours, i), heats[i]);
        }
    }

    private static void noHeatAboveTheOneAhead() {
        Check.of("HEATS, none above the one ahead");
        GlassWires g = new GlassWires();
        int[] heats = {300, 900, 1, 500, 100, 700, 200, 400};
        for (int colour = 0; colour < 8; colour++) {
            g.colour(colour, 0, heats[colour]);
            g.colour(colour, 1, 0);
        }
        heatsAre(g, 255, 950, 750, 550, 450, 350, 250, 150, 51, NONE);
    }

    // ---- promises 18 to 20: colours and rules

    private static void colourOfNoneIsUnknown() {
        Check.of("18 UNKNOWN: colour, what");
        GlassWires g = new GlassWires();
        Check.keepsEach(g, "colour(.., 0, 5)", UNKNOWN, colour -> g.colour(colour, 0, 5), -1, 8, LOW, TOP);
        Check.keepsEach(g, "colour(0, .., 5)", UNKNOWN, what -> g.colour(0, what, 5), -1, 3, LOW, TOP);
        Check.due("the last colour, the last trait", g.colour(7, 2, 5), 10);
    }

    private static void colourRefusedInOrder() {
        Check.of("18 UNKNOWN is told ahead of OUTSIDE");
        GlassWires g = new GlassWires();
        Check.keepsEach(g, "colour(8, 0, ..)", UNKNOWN, v -> g.colour(8, 0, v), -1, 901, LOW, TOP);
        Check.keepsEach(g, "colour(0, 3, ..)", UNKNOWN, v -> g.colour(0, 3, v), -1, 901, LOW, TOP);
        Check.keeps(g, "colour(0, 1, 10)", OUTSIDE, () -> g.colour(0, 1, 10));
        Check.keeps(g, "colour(0, 2, 100)", OUTSIDE, () -> g.colour(0, 2, 100));
    }

    private static void foesOfNoneAreUnknown() {
        Check.of("19 UNKNOWN: a, b");
        GlassWires g = new GlassWires();
        Check.keepsEach(g, "foes(.., 0)", UNKNOWN, a -> g.foes(a, 0, true), -1, 8, 32, LOW, TOP);
        Check.keepsEach(g, "foes(0, ..)", UNKNOWN, b -> g.foes(0, b, true), -1, 8, 32, LOW, TOP);
        Check.due("the first and the last", g.foes(0, 7, true), 0);
        Check.due("they were", g.foes(7, 0, true), 1);
    }

    private static void foesOfTheSame() {
        Check.of("19 OUTSIDE: they are the same");
        GlassWires g = new GlassWires();
        Check.keepsEach(g, "foes of like", OUTSIDE, a -> g.foes(a, a, true), 0, 1, 2, 3, 4, 5, 6, 7);
        Check.keepsEach(g, "UNKNOWN is told ahead", UNKNOWN, a -> g.foes(a, a, true), -1, 8, LOW, TOP);
    }

    private static void ruleOfNoneIsUnknown() {
        Check.of("20 UNKNOWN: which");
        GlassWires g = new GlassWires();
        Check.keepsEach(g, "rule(.., 5)", UNKNOWN, which -> g.rule(which, 5), -1, 3, LOW, TOP);
        Check.keepsEach(g, "rule(.., 0)", UNKNOWN, which -> g.rule(which, 0), -1, 3, LOW, TOP);
    }

    private static void stiffIsOneTo99() {
        Check.of("20 STIFF (1 to 99; 20 at first)");
        ruleIs(1, 20, 99);
    }

    private static void bearIsOneTo999() {
        Check.of("20 BEAR (1 to 999; 50 at first)");
        ruleIs(2, 50, 999);
    }

    // ---- promises 21 to 24: glass

    private static void fillTellsHowManyFields() {
        Check.of("21 A raw LAYER comes on all FIELDS of a CELL: how many FIELDS");
        GlassWires g = Check.plateOf(8, 8);
        Check.due("all of the greatest plate", g.fill(0, 0, 1), 64);
        Check.due("state(0)", g.state(0), 64);
        Check.due("the last field", g.layer(7, 7, 0, 2), RAW);
        GlassWires s = Check.gridOf(8, 8);
        Check.due("a cell of one field", s.fill(63, 7, 99), 1);
        Check.due("count(5)", s.count(5), 1);
    }

    private static void fillOfNoCellOrColour() {
        Check.of("21 UNKNOWN: cell, colour");
        GlassWires g = twoCells();
        Check.keepsEach(g, "fill(.., 0, 5)", UNKNOWN, cell -> g.fill(cell, 0, 5), -1, 2, 3, 4, 63, 64, LOW, TOP);
        Check.keepsEach(g, "fill(0, .., 5)", UNKNOWN, colour -> g.fill(0, colour, 5), -1, 8, LOW, TOP);
    }

    private static void fillTooThinOrTooThick() {
        Check.of("21 OUTSIDE: v is not 1 to 99");
        GlassWires g = twoCells();
        Check.keepsEach(g, "fill(0, 0, ..)", OUTSIDE, v -> g.fill(0, 0, v), 0, -1, 100, LOW, TOP);
        Check.due("1", g.fill(0, 0, 1), 2);
        Check.due("99", g.fill(0, 0, 99), 2);
    }

    private static void fillWhereSomeFieldHasTwelve() {
        Check.of("21 FULL: some FIELD has 12");
        GlassWires g = Check.gridOf(2, 2);
        for (int i = 0; i < 12; i++) {
            g.fill(3, 0, 1);
        }
        Check.keeps(g, "a cell of it alone", FULL, () -> g.fill(3, 0, 1));
        Check.due("another cell", g.fill(0, 0, 1), 1);
        g.lay(0, false);
        g.lay(1, false);
        Check.keeps(g, "a cell with others", FULL, () -> g.fill(0, 0, 1));
        Check.due("the others get nothing", g.field(1, 0, 1), 0);
        g.lay(0, true);
        g.lay(1, true);
        g.empty(3);
        g.lay(0, false);
        g.lay(1, false);
        Check.due("emptied", g.fill(0, 0, 1), 4);
        for (int full = 0; full < 4; full++) {
            fullByOneField(full);
        }
    }

    /** Whichever field of the cell it is. */
    private static void fullByOneField(int full) {
        GlassWires g = Check.gridOf(2, 2);
        for (int i = 0; i < 12; i++) {
            g.fill(full, 0, 1);
        }
        g.lay(0, false);
        g.lay(1, false);
        Check.keeps(g, "field " + full + " has 12", FULL, () -> g.fill(0, 0, 1));
    }

    private static void fillRefusedInOrder() {
        Check.of("21 UNKNOWN, then OUTSIDE, then FULL");
        GlassWires g = twoCells();
        for (int i = 0; i < 12; i++) {
            g.fill(0, 0, 1);
        }
        Check.keeps(g, "no cell, too thin", UNKNOWN, () -> g.fill(2, 0, 0));
        Check.keeps(g, "no colour, too thick, no room", UNKNOWN, () -> g.fill(0, 8, 100));
        Check.keeps(g, "no colour, no room", UNKNOWN, () -> g.fill(0, -1, 1));
        Check.keeps(g, "too thin, no room", OUTSIDE, () -> g.fill(0, 0, 0));
        Check.keeps(g, "too thick, no room", OUTSIDE, () -> g.fill(0, 0, 100));
        Check.keeps(g, "no room", FULL, () -> g.fill(0, 0, 99));
    }

    private static void emptyTellsHowManyWent() {
        Check.of("22 All glass of a CELL is taken out: how many LAYERS went (of all its FIELDS)");
        GlassWires g = Check.plateOf(8, 8);
        Check.keeps(g, "an empty one", 0, () -> g.empty(0));
        for (int i = 0; i < 12; i++) {
            g.fill(0, 0, 1);
        }
        Check.due("a full one", g.empty(0), 768);
        Check.due("as a new object", g.digest(), WiresTest.newDigest(8, 8));
        GlassWires two = twoCells();
        two.fill(0, 0, 1);
        two.fill(1, 0, 1);
        Check.due("one of two", two.empty(1), 2);
        Check.due("the other keeps its own", two.field(0, 1, 1), 1);
    }

    private static void emptyOfNoCell() {
        Check.of("22 empty: UNKNOWN");
        GlassWires g = twoCells();
        g.fill(0, 0, 1);
        g.fill(1, 0, 1);
        Check.keepsEach(g, "empty", UNKNOWN, g::empty, -1, 2, 3, 4, 63, 64, LOW, TOP);
    }

    private static void fieldOfNone() {
        Check.of("23 UNKNOWN: x, y");
        GlassWires g = Check.plateOf(2, 3);
        Check.keepsEach(g, "field(.., 0, 0)", UNKNOWN, x -> g.field(x, 0, 0), -1, 2, 3, LOW, TOP);
        Check.keepsEach(g, "field(0, .., 0)", UNKNOWN, y -> g.field(0, y, 0), -1, 3, LOW, TOP);
        Check.keepsEach(g, "told ahead of OUTSIDE", UNKNOWN, x -> g.field(x, 0, 2), -1, 2, LOW, TOP);
        g.fill(0, 0, 99);
        Check.due("the last field", g.field(1, 2, 0), 99);
    }

    private static void fieldOfWhatIsNot() {
        Check.of("23 field: OUTSIDE");
        GlassWires g = new GlassWires();
        g.fill(0, 0, 5);
        Check.keepsEach(g, "field(0, 0, ..)", OUTSIDE, what -> g.field(0, 0, what), -1, 2, LOW, TOP);
        Check.due("HIGH", g.field(0, 0, 0), 5);
        Check.due("LAYERS", g.field(0, 0, 1), 1);
    }

    private static void layerThatThereIsNot() {
        Check.of("24 NONE: there is none");
        GlassWires g = new GlassWires();
        Check.keepsEach(g, "no glass", NONE, i -> g.layer(0, 0, i, 0), -1, 0, 1, 11, 12, LOW, TOP);
        g.fill(0, 1, 5);
        layerIs(g, "the only one", 0, 1, 5, RAW);
        Check.keepsEach(g, "one layer", NONE, i -> g.layer(0, 0, i, 1), -1, 1, 11, 12, LOW, TOP);
        for (int i = 1; i < 12; i++) {
            g.fill(0, 2, 6);
        }
        layerIs(g, "the 12th", 11, 2, 6, RAW);
        Check.keepsEach(g, "12 layers", NONE, i -> g.layer(0, 0, i, 2), -1, 12, 13, LOW, TOP);
    }

    private static void layerOfNoField() {
        Check.of("24 UNKNOWN: x, y");
        GlassWires g = Check.plateOf(2, 3);
        g.fill(0, 0, 5);
        Check.keepsEach(g, "layer(.., 0, 0, 0)", UNKNOWN, x -> g.layer(x, 0, 0, 0), -1, 2, LOW, TOP);
        Check.keepsEach(g, "layer(0, .., 0, 0)", UNKNOWN, y -> g.layer(0, y, 0, 0), -1, 3, LOW, TOP);
        Check.keepsEach(g, "told ahead of OUTSIDE", UNKNOWN, x -> g.layer(x, 0, 0, 3), -1, 2, LOW, TOP);
        Check.due("the last field", g.layer(1, 2, 0, 1), 5);
    }

    private static void layerOfWhatIsNot() {
        Check.of("24 OUTSIDE: what");
        GlassWires g = new GlassWires();
        g.fill(0, 0, 5);
        Check.keepsEach(g, "layer(0, 0, 0, ..)", OUTSIDE, what -> g.layer(0, 0, 0, what), -1, 3, LOW, TOP);
        Check.keepsEach(g, "of no layer", OUTSIDE, what -> g.layer(0, 0, 1, what), -1, 3, LOW, TOP);
    }

    // ---- promises 25 to 27: firings

    private static void aRefusedFireIsNoFiring() {
        Check.of("25 fire: OUTSIDE");
        GlassWires g = twoCells();
        g.fill(0, 0, 99);
        Check.keepsEach(g, "fire", OUTSIDE, g::fire, 0, 1000, -700, LOW, TOP);
        Check.due("no firing is done", g.state(5), 0);
        Check.due("nothing runs over", g.field(0, 0, 0), 99);
    }

    private static void fireWithoutGlass() {
        Check.of("25 how many LAYERS became fired: of none, and of all");
        GlassWires g = Check.plateOf(8, 8);
        Check.due("no glass", g.fire(999), 0);
        Check.due("a firing all the same", g.state(5), 1);
        for (int i = 0; i < 12; i++) {
            g.fill(0, i % 8, 99);
        }
        Check.due("all", g.fire(700), 768);
        Check.due("none again", g.fire(700), 0);
        Check.due("state(1)", g.state(1), 768);
        Check.due("state(3)", g.state(3), 64);
    }

    private static void polishOfNothing() {
        Check.of("26 polish, where nothing is above WALL");
        GlassWires g = twoCells();
        Check.keeps(g, "no glass", 0, g::polish);
        g.fill(0, 0, 19);
        Check.keeps(g, "below WALL", 0, g::polish);
        g.fill(0, 0, 1);
        Check.keeps(g, "at WALL", 0, g::polish);
        g.fill(0, 0, 1);
        Check.due("1 above WALL, on two fields", g.polish(), 2);
        Check.keeps(g, "again", 0, g::polish);
    }

    private static void polishTakesAllAboveWall() {
        Check.of("26 All that is above WALL is taken off, from above: how much together");
        GlassWires g = Check.plateOf(8, 8);
        g.rule(0, 1);
        for (int i = 0; i < 12; i++) {
            g.fill(0, i % 8, 99);
        }
        Check.due("the most", g.polish(), 64 * (12 * 99 - 1));
        layerIs(g, "what is left", 0, 0, 1, RAW);
        Check.due("of each field", g.count(5), 64);
    }

    private static void polishTakesLayersOfWhichNothingIsLeft() {
        Check.of("26 (LAYERS of which nothing is left go)");
        GlassWires g = twoCells();
        g.fill(0, 0, 20);
        g.fill(0, 1, 7);
        g.fill(0, 2, 1);
        Check.due("two layers, two fields", g.polish(), 16);
        Check.due("LAYERS", g.field(0, 0, 1), 1);
        g.fill(0, 3, 3);
        g.rule(0, 22);
        Check.due("a part of one", g.polish(), 2);
        layerIs(g, "what is left", 1, 3, 2, RAW);
        g.rule(0, 20);
        Check.due("just all of it", g.polish(), 4);
        Check.due("LAYERS", g.field(0, 1, 1), 1);
    }

    private static void stateOfWhatIsNot() {
        Check.of("27 state: OUTSIDE");
        GlassWires g = new GlassWires();
        Check.keepsEach(g, "state", OUTSIDE, g::state, -1, 6, LOW, TOP);
        Check.keepsEach(g, "at first", 0, g::state, 0, 1, 2, 3, 4, 5);
    }

    private static void stateOfLayersInOneField() {
        Check.of("27 How many: raw, fired, burnt LAYERS, of all and of each FIELD");
        GlassWires g = Check.gridOf(2, 2);
        for (int colour = 0; colour < 3; colour++) {
            g.colour(colour, 0, 500 + 100 * colour);
        }
        g.fill(0, 0, 1);
        g.fill(0, 1, 1);
        g.fill(0, 2, 1);
        g.fill(3, 2, 1);
        g.fill(2, 1, 1);
        g.fill(2, 1, 1);
        g.fire(600);
        Check.due("raw", g.state(0), 2);
        Check.due("fired", g.state(1), 3);
        Check.due("burnt", g.state(2), 1);
        g.fire(700);
        Check.due("no raw ones", g.state(0), 0);
        Check.due("fired", g.state(1), 2);
        Check.due("burnt", g.state(2), 4);
        g.fire(999);
        Check.due("none is fired", g.state(1), 0);
        Check.due("all are burnt", g.state(2), 6);
    }

    private static void stateOfFieldsAtWall() {
        Check.of("27 FIELDS with HIGH WALL at least");
        GlassWires g = twoCells();
        g.fill(0, 0, 19);
        Check.due("below", g.state(3), 0);
        g.fill(0, 0, 1);
        Check.due("at", g.state(3), 2);
        g.fill(1, 0, 21);
        Check.due("above", g.state(3), 4);
        g.rule(0, 21);
        Check.due("WALL is higher now", g.state(3), 2);
    }

    private static void firingsAreCounted() {
        Check.of("27 FIRINGS done");
        GlassWires g = new GlassWires();
        for (int i = 1; i <= 400; i++) {
            g.fire(i);
        }
        Check.due("400", g.state(5), 400);
        g.fire(0);
        Check.due("a refused one is not done", g.state(5), 400);
        g.plate(1, 1);
        Check.due("a refused plate keeps them", g.state(5), 400);
        g.plate(2, 2);
        Check.due("a plate that is done does not", g.state(5), 0);
    }

    // ---- promises 28 to 30: plans

    private static void fillsOfNoColour() {
        Check.of("28 fills: UNKNOWN");
        GlassWires g = new GlassWires();
        Check.keepsEach(g, "fills", UNKNOWN, g::fills, -1, 8, LOW, TOP);
        Check.keepsEach(g, "fills", 2, g::fills, 0, 7);
    }

    private static void planOfNoColours() {
        Check.of("29 COLOURS (bits, 0 to 255): none");
        GlassWires g = new GlassWires();
        Check.due("plan(0)", g.plan(0), 0);
        g.rule(0, 1);
        Check.due("nothing to fill", g.plan(255), 0);
        Check.due("no heat", g.heat(255, 0), NONE);
    }

    private static void planOfAllColours() {
        Check.of("29 COLOURS (bits, 0 to 255): each alone, and all");
        GlassWires g = new GlassWires();
        g.rule(0, 99);
        for (int colour = 0; colour < 8; colour++) {
            g.colour(colour, 0, 900 - 51 * colour);
            g.colour(colour, 1, 9);
            Check.due("bit " + colour, g.plan(1 << colour), 27);
            Check.due("its heat", g.heat(1 << colour, 26), 950 - 51 * colour);
        }
        Check.due("none in reach of another", g.plan(255), 216);
        Check.due("the last", g.heat(255, 215), 950 - 51 * 7);
        Check.due("behind it", g.heat(255, 216), NONE);
    }

    private static void planOfWhatIsNot() {
        Check.of("29 plan: OUTSIDE");
        GlassWires g = new GlassWires();
        Check.keepsEach(g, "plan", OUTSIDE, g::plan, -1, 256, 257, 511, LOW, TOP);
        Check.due("plan(255)", g.plan(255), 2);
    }

    private static void heatsFromTheHottestToTheLast() {
        Check.of("30 The HEAT of its i-th FIRING (the hottest first); NONE");
        GlassWires g = new GlassWires();
        g.colour(0, 0, 900);
        g.colour(1, 0, 1);
        g.colour(1, 1, 0);
        heatsAre(g, 3, 950, 950, 51, NONE);
        Check.keepsEach(g, "heat(3, ..)", NONE, i -> g.heat(3, i), -1, 3, 4, LOW, TOP);
        Check.keepsEach(g, "heat(0, ..)", NONE, i -> g.heat(0, i), -1, 0, 1, LOW, TOP);
    }

    private static void heatOfWhatIsNot() {
        Check.of("30 OUTSIDE: colours");
        GlassWires g = new GlassWires();
        Check.keepsEach(g, "heat(.., 0)", OUTSIDE, colours -> g.heat(colours, 0), -1, 256, LOW, TOP);
        Check.keepsEach(g, "told ahead of NONE", OUTSIDE, colours -> g.heat(colours, -1), -1, 256, LOW, TOP);
    }
}
