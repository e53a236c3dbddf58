/**
 * The third part of "Terms" and promises 31 to 39: each sentence that names a boundary case has a
 * test of its own here, which bears the sentence's words.
 */
public final class PullBoundsTest {
    private static final int LOW = Integer.MIN_VALUE, TOP = Integer.MAX_VALUE;
    private static final int NONE = GlassWires.NONE, UNKNOWN = GlassWires.UNKNOWN;
    private static final int OUTSIDE = GlassWires.OUTSIDE, BOW_OUTSIDE = -1000001;

    public static void main(String[] args) {
        termsOfPull();
        termsOfCooling();
        termsOfRepairs();
        promisesOfTheBack();
        promisesOfCooling();
        promisesOfRepairs();
        Check.end();
    }

    private static void termsOfPull() {
        rawLayersDoNotPull();
        theBackIsNoneTo99();
        bowIsRoundedTowardsZero();
        bentIsRoundedTowardsZero();
    }

    private static void termsOfCooling() {
        strainIsRoundedDown();
        strainIsWithoutTheSign();
        cracksAboveBear();
        stepsAsLongAsMayBe();
    }

    private static void termsOfRepairs() {
        harmedAreTheOtherCells();
        harmedByOneFieldOfThem();
        harmedOnlyWhereTheUpmostIsFired();
        harmedAboveHeatAnd50();
        safeFromItsOwnToTheGreatest();
        safeUpTo999();
        safeNowhere();
    }

    private static void promisesOfTheBack() {
        backOfNoColour();
        backTooThick();
        backRefusedInOrder();
        pullOfNoSide();
        theGreatestPull();
        bowOfWhatIsNot();
        straightIsLeastOfLikeOnes();
        straightIsNoneTo99();
        straightOfNoColour();
    }

    private static void promisesOfCooling() {
        strainOfHeatsThatAreNone();
        strainUpwards();
        coolingFromZero();
        coolingWhereEachStepCracks();
        coolingOfWhatIsNot();
        coolBehindNoStep();
        coolBehindTheLastStep();
        coolOfWhatIsNot();
    }

    private static void promisesOfRepairs() {
        harmsOfNoCell();
        harmsOfNoHeat();
        safeOfNoCellOrColour();
        safeOfNoSide();
    }

    /** 2 by 2 cells, the first with fired glass that pulls so much (0 to 99). */
    private static GlassWires pulling(int much) {
        GlassWires g = Check.gridOf(2, 2);
        g.rule(0, 99);
        g.colour(0, 1, 0);
        g.colour(0, 2, 1);
        if (much > 0) {
            g.fill(0, 0, much);
            g.fire(700);
        }
        return g;
    }

    /** A plate whose BOW is this one: 0 to -9801, by a back alone. */
    private static GlassWires bowed(int thick, int pull) {
        GlassWires g = new GlassWires();
        g.colour(0, 2, pull);
        g.back(0, thick);
        return g;
    }

    // ---- terms: pull

    private static void rawLayersDoNotPull() {
        Check.of("PULL of the front: over all LAYERS that are fired or burnt");
        GlassWires g = new GlassWires();
        Check.due("no glass", g.pull(0), 0);
        g.fill(0, 0, 10);
        g.fire(699);
        Check.due("raw", g.pull(0), 0);
        g.fire(700);
        Check.due("fired", g.pull(0), 16 * 7 * 10);
        g.fire(751);
        Check.due("burnt", g.pull(0), 16 * 7 * 10);
        g.fill(0, 1, 99);
        Check.due("raw on it", g.pull(0), 16 * 7 * 10);
        g.colour(0, 2, 0);
        Check.due("PULL 0", g.pull(0), 0);
        g.colour(0, 2, 99);
        Check.due("PULL 99", g.pull(0), 16 * 7 * 99);
    }

    private static void theBackIsNoneTo99() {
        Check.of("THE BACK (a COLOUR and a THICK 0 to 99 all over; 0 at first)");
        GlassWires g = new GlassWires();
        Check.due("at first", g.pull(1), 0);
        for (int thick = -1; thick <= 101; thick++) {
            boolean is = thick >= 0 && thick <= 99;
            Check.due("back(7, " + thick + ")", g.back(7, thick), is ? 1 : OUTSIDE);
            Check.due("pull(1)", g.pull(1), 16 * 10 * Math.max(0, Math.min(99, thick)));
        }
        g.back(0, 0);
        Check.due("as a new object", g.digest(), WiresTest.newDigest(4, 4));
    }

    private static void bowIsRoundedTowardsZero() {
        Check.of("BOW: the front's less the back's, by FIELDS (rounded towards 0)");
        int[][] due = {{0, 0, 0}, {3, 0, 0}, {4, 0, 1}, {7, 0, 1}, {8, 0, 2}, {4, 1, 0}, {3, 1, 0}, {1, 1, 0},
            {0, 1, -1}, {1, 2, -1}, {4, 2, -1}, {5, 2, 0}, {3, 2, -1}, {0, 2, -2}, {99, 0, 24}, {0, 99, -99},
            {1, 99, -98}};
        for (int[] one : due) {
            GlassWires g = pulling(one[0]);
            g.back(0, one[1]);
            Check.due("4 fields, front " + one[0] + ", back 4 times " + one[1], g.bow(0), one[2]);
        }
    }

    private static void bentIsRoundedTowardsZero() {
        Check.of("BENT: BOW by STIFF, rounded towards 0");
        int[][] due = {{0, 20, 0}, {19, 20, 0}, {20, 20, -1}, {39, 20, -1}, {40, 20, -2}, {99, 1, -99}, {98, 99, 0},
            {99, 99, -1}};
        for (int[] one : due) {
            GlassWires g = bowed(one[0], 1);
            g.rule(1, one[1]);
            Check.due("BOW -" + one[0] + ", STIFF " + one[1], g.bow(1), one[2]);
        }
        GlassWires f = pulling(99);
        f.rule(1, 25);
        Check.due("BOW 24, STIFF 25", f.bow(1), 0);
        f.rule(1, 24);
        Check.due("BOW 24, STIFF 24", f.bow(1), 1);
        f.rule(1, 13);
        Check.due("BOW 24, STIFF 13", f.bow(1), 1);
    }

    // ---- terms: cooling

    private static void strainIsRoundedDown() {
        Check.of("STRAIN: (a less b) times BOW by 1000, rounded down");
        GlassWires g = bowed(2, 1);
        Check.due("998", g.strain(499, 0), 0);
        Check.due("1000", g.strain(500, 0), 1);
        Check.due("1998", g.strain(999, 0), 1);
        Check.due("1998, one up", g.strain(999, 1), 1);
        GlassWires one = bowed(1, 1);
        Check.due("999", one.strain(999, 0), 0);
    }

    private static void strainIsWithoutTheSign() {
        Check.of("STRAIN: BOW without its sign");
        GlassWires g = pulling(80);
        Check.due("BOW 20", g.bow(0), 20);
        Check.due("STRAIN", g.strain(550, 50), 10);
        g.back(0, 40);
        Check.due("BOW -20", g.bow(0), -20);
        Check.due("STRAIN", g.strain(550, 50), 10);
        g.back(0, 20);
        Check.due("no BOW", g.strain(999, 0), 0);
    }

    private static void cracksAboveBear() {
        Check.of("it CRACKS, if this is above BEAR (1 to 999; 50 at first)");
        GlassWires g = bowed(51, 1);
        Check.due("a STRAIN of 50 does not", g.cooling(999), 1);
        g.back(0, 52);
        Check.due("51 does", g.strain(999, 0), 51);
        Check.due("two steps", g.cooling(999), 2);
        Check.due("the longest that bears 50", g.cool(999, 1), 999 - 980);
        g.rule(2, 51);
        Check.due("BEAR 51", g.cooling(999), 1);
        g.rule(2, 1);
        Check.due("BEAR 1", g.cool(999, 1), 999 - 38);
        GlassWires most = bowed(99, 99);
        most.rule(2, 999);
        Check.due("BEAR 999", most.cool(999, 1), 999 - 102);
    }

    private static void stepsAsLongAsMayBe() {
        Check.of("COOLING: each as long as may be, the last as is left");
        GlassWires g = bowed(20, 1);
        g.rule(2, 1);
        int[][] due = {{1, 1}, {98, 1}, {99, 1}, {100, 2}, {198, 2}, {199, 3}, {999, 11}};
        for (int[] one : due) {
            Check.due("cooling(" + one[0] + ")", g.cooling(one[0]), one[1]);
        }
        Check.due("the first step", g.cool(199, 1), 100);
        Check.due("the second", g.cool(199, 2), 1);
        Check.due("the last", g.cool(199, 3), 0);
        GlassWires straight = new GlassWires();
        Check.due("without BOW", straight.cooling(999), 1);
        Check.due("at once", straight.cool(999, 1), 0);
    }

    // ---- terms: repairs

    /** Three columns, fired glass of HEATS 700, 600, 500. */
    private static GlassWires threeCells() {
        GlassWires g = Check.plateOf(3, 2);
        Check.draw(g, 1, 0, "uu");
        Check.draw(g, 2, 0, "uu");
        for (int cell = 0; cell < 3; cell++) {
            g.colour(cell, 0, 700 - 100 * cell);
            g.fill(cell, cell, 10);
            g.fire(700 - 100 * cell);
        }
        return g;
    }

    private static void harmedAreTheOtherCells() {
        Check.of("HARMED are the other CELLS");
        GlassWires g = threeCells();
        Check.due("a flaw in 0", g.harms(0, 999), 2);
        Check.due("a flaw in 1", g.harms(1, 999), 2);
        Check.due("a flaw in 2", g.harms(2, 551), 0);
        Check.due("the same heat, a flaw in 0", g.harms(0, 551), 1);
        g.lay(0, false);
        g.lay(1, false);
        Check.due("one cell alone", g.harms(0, 999), 0);
        GlassWires all = Check.gridOf(8, 8);
        for (int cell = 0; cell < 64; cell++) {
            all.fill(cell, 0, 1);
        }
        all.fire(700);
        Check.due("all others", all.harms(63, 751), 63);
    }

    private static void harmedByOneFieldOfThem() {
        Check.of("CELLS that have a FIELD whose upmost LAYER is fired");
        GlassWires g = Check.plateOf(3, 2);
        Check.draw(g, 1, 0, "uu");
        Check.draw(g, 2, 1, "r");
        Check.draw(g, 2, 1, "u");
        g.fill(5, 0, 5);
        g.fire(700);
        Check.due("a cell of its own", g.harms(0, 999), 1);
        g.lay(1, false);
        g.lay(2, false);
        Check.due("one field of four", g.harms(0, 999), 1);
        g.fill(1, 0, 5);
        g.fire(700);
        Check.due("four fields of four", g.harms(0, 999), 1);
    }

    private static void harmedOnlyWhereTheUpmostIsFired() {
        Check.of("whose upmost LAYER is fired");
        GlassWires full = Check.gridOf(2, 2);
        full.rule(0, 99);
        for (int i = 0; i < 12; i++) {
            full.fill(0, 0, 1);
        }
        full.fire(700);
        Check.due("a full one, none beside it", full.harms(3, 999), 1);
        GlassWires g = Check.gridOf(2, 2);
        Check.due("no glass", g.harms(0, 999), 0);
        g.fill(3, 0, 5);
        Check.due("raw", g.harms(0, 999), 0);
        g.fire(700);
        Check.due("fired", g.harms(0, 999), 1);
        g.fill(3, 0, 5);
        Check.due("raw on fired", g.harms(0, 999), 0);
        g.fire(700);
        Check.due("fired on fired", g.harms(0, 999), 1);
        g.fire(751);
        Check.due("burnt", g.harms(0, 999), 0);
        g.fill(3, 0, 1);
        g.fire(700);
        Check.due("fired on burnt", g.harms(0, 999), 1);
    }

    private static void harmedAboveHeatAnd50() {
        Check.of("its COLOUR's HEAT and 50 below t");
        int[] heats = {1, 500, 900};
        for (int heat : heats) {
            GlassWires g = Check.gridOf(2, 2);
            g.colour(0, 0, heat);
            g.fill(3, 0, 5);
            g.fire(heat);
            Check.due("HEAT", g.harms(0, heat), 0);
            Check.due("HEAT and 50", g.harms(0, heat + 50), 0);
            Check.due("HEAT and 51", g.harms(0, heat + 51), 1);
            Check.due("999", g.harms(0, 999), 1);
            Check.due("1", g.harms(0, 1), 0);
        }
    }

    private static void safeIs(GlassWires g, int cell, int colour, int least, int greatest) {
        Check.due("safe(" + cell + ", " + colour + ", 0)", g.safe(cell, colour, 0), least);
        Check.due("safe(" + cell + ", " + colour + ", 1)", g.safe(cell, colour, 1), greatest);
    }

    private static void safeFromItsOwnToTheGreatest() {
        Check.of("SAFE: heats from its own to the greatest at which none is HARMED");
        GlassWires g = threeCells();
        safeIs(g, 2, 1, 600, 650);
        safeIs(g, 2, 2, 500, 650);
        safeIs(g, 1, 2, 500, 550);
        safeIs(g, 0, 2, 500, 550);
        g.colour(7, 0, 1);
        safeIs(g, 0, 7, 1, 550);
        g.empty(1);
        g.empty(2);
        safeIs(g, 0, 7, 1, 999);
        safeIs(g, 1, 7, 1, 750);
        safeIs(g, 2, 7, 1, 750);
    }

    private static void safeUpTo999() {
        Check.of("(999 at most)");
        GlassWires g = Check.gridOf(2, 2);
        g.colour(7, 0, 900);
        safeIs(g, 0, 7, 900, 999);
        g.fill(0, 0, 5);
        g.fire(700);
        safeIs(g, 0, 7, 900, 999);
        g.fill(1, 7, 5);
        g.fire(900);
        g.empty(0);
        safeIs(g, 0, 7, 900, 950);
    }

    private static void safeNowhere() {
        Check.of("none, if at its own some is");
        GlassWires g = Check.gridOf(2, 2);
        g.fill(1, 0, 5);
        g.fire(700);
        g.colour(0, 0, 1);
        g.colour(1, 0, 51);
        safeIs(g, 0, 1, 51, 51);
        g.colour(1, 0, 52);
        safeIs(g, 0, 1, NONE, NONE);
        safeIs(g, 1, 1, 52, 999);
    }

    // ---- promises 31 to 34: the back and the bow

    private static void backOfNoColour() {
        Check.of("31 UNKNOWN: colour");
        GlassWires g = bowed(12, 10);
        Check.keepsEach(g, "back(.., 5)", UNKNOWN, colour -> g.back(colour, 5), -1, 8, LOW, TOP);
        Check.due("the last", g.back(7, 5), 1);
    }

    private static void backTooThick() {
        Check.of("31 back: OUTSIDE");
        GlassWires g = bowed(12, 10);
        Check.keepsEach(g, "back(0, ..)", OUTSIDE, thick -> g.back(0, thick), -1, 100, LOW, TOP);
        Check.due("99", g.back(0, 99), 1);
        Check.due("0", g.back(0, 0), 1);
    }

    private static void backRefusedInOrder() {
        Check.of("31 UNKNOWN is told ahead of OUTSIDE");
        GlassWires g = bowed(12, 10);
        Check.keepsEach(g, "back(8, ..)", UNKNOWN, thick -> g.back(8, thick), -1, 100, LOW, TOP);
        Check.keepsEach(g, "back(-1, ..)", UNKNOWN, thick -> g.back(-1, thick), -1, 100, LOW, TOP);
    }

    private static void pullOfNoSide() {
        Check.of("32 OUTSIDE (as -102)");
        GlassWires g = bowed(12, 10);
        Check.keepsEach(g, "pull", -102, g::pull, -1, 2, LOW, TOP);
        Check.due("the front", g.pull(0), 0);
        Check.due("the back", g.pull(1), 16 * 12 * 10);
    }

    private static void theGreatestPull() {
        Check.of("32 PULL of the front, of THE BACK: the greatest");
        GlassWires g = Check.plateOf(8, 8);
        g.colour(0, 1, 0);
        g.colour(0, 2, 99);
        for (int i = 0; i < 12; i++) {
            g.fill(0, 0, 99);
        }
        g.fire(700);
        Check.due("the front", g.pull(0), 64 * 12 * 99 * 99);
        Check.due("BOW", g.bow(0), 12 * 99 * 99);
        Check.due("STRAIN", g.strain(999, 0), 117494);
        g.empty(0);
        g.back(0, 99);
        Check.due("the back", g.pull(1), 64 * 99 * 99);
        Check.due("BOW", g.bow(0), -99 * 99);
    }

    private static void bowOfWhatIsNot() {
        Check.of("33 -1000001: OUTSIDE");
        GlassWires g = bowed(12, 10);
        Check.keepsEach(g, "bow", BOW_OUTSIDE, g::bow, -1, 2, LOW, TOP);
        GlassWires same = bowed(51, 2);
        Check.due("a BOW of -102", same.bow(0), -102);
        same.rule(1, 1);
        Check.due("a BENT of -102", same.bow(1), -102);
    }

    private static void straightIsLeastOfLikeOnes() {
        Check.of("34 by which BOW without its sign is least, of like ones the least");
        Check.due("3 of 4: none is as good as 1", pulling(3).straight(0), 0);
        Check.due("4 of 4: just 1", pulling(4).straight(0), 1);
        Check.due("9 of 4: 2 leaves 1 of 4, and 3 lacks 3", pulling(9).straight(0), 2);
        GlassWires g = pulling(60);
        g.colour(1, 2, 10);
        Check.due("15 of each: 5 over or 5 under", g.straight(1), 1);
        g.colour(1, 2, 11);
        Check.due("4 over or 7 under", g.straight(1), 1);
        g.colour(1, 2, 9);
        Check.due("6 over or 3 under", g.straight(1), 2);
        g.colour(1, 2, 0);
        Check.due("all alike", g.straight(1), 0);
        Check.keeps(g, "the back is not laid on", 0, () -> g.straight(1));
    }

    private static void straightIsNoneTo99() {
        Check.of("34 The THICK (0 to 99) of a BACK");
        GlassWires g = pulling(99);
        g.colour(0, 2, 4);
        g.colour(1, 2, 1);
        Check.due("just 99", g.straight(1), 99);
        g.colour(0, 2, 8);
        Check.due("more would be better", g.straight(1), 99);
        Check.due("no glass", new GlassWires().straight(0), 0);
        GlassWires b = bowed(99, 99);
        Check.due("whatever the back is now", b.straight(0), 0);
    }

    private static void straightOfNoColour() {
        Check.of("34 straight: UNKNOWN");
        GlassWires g = pulling(40);
        Check.keepsEach(g, "straight", UNKNOWN, g::straight, -1, 8, LOW, TOP);
        Check.due("the last", g.straight(7), 1);
    }

    // ---- promises 35 to 37: cooling

    private static void strainOfHeatsThatAreNone() {
        Check.of("35 OUTSIDE: a, b are not 0 to 999");
        GlassWires g = bowed(99, 99);
        Check.keepsEach(g, "strain(.., 0)", OUTSIDE, a -> g.strain(a, 0), -1, 1000, LOW, TOP);
        Check.keepsEach(g, "strain(999, ..)", OUTSIDE, b -> g.strain(999, b), -1, 1000, LOW, TOP);
        Check.keepsEach(g, "strain of like", OUTSIDE, a -> g.strain(a, a), -1, 1000, LOW, TOP);
        Check.keeps(g, "far apart", OUTSIDE, () -> g.strain(TOP, LOW));
        Check.due("strain(999, 0)", g.strain(999, 0), 999 * 9801 / 1000);
        Check.due("strain(0, 0)", g.strain(0, 0), 0);
        Check.due("strain(999, 999)", g.strain(999, 999), 0);
    }

    private static void strainUpwards() {
        Check.of("35 OUTSIDE: b is above a");
        GlassWires g = bowed(99, 99);
        Check.keeps(g, "strain(5, 6)", OUTSIDE, () -> g.strain(5, 6));
        Check.keeps(g, "strain(0, 999)", OUTSIDE, () -> g.strain(0, 999));
        Check.due("strain(5, 5)", g.strain(5, 5), 0);
        Check.due("strain(5, 4)", g.strain(5, 4), 9);
    }

    private static void coolingFromZero() {
        Check.of("36 COOLING from a (0 to 999): how many steps, from 0 and from 999");
        GlassWires g = new GlassWires();
        Check.due("no step from 0", g.cooling(0), 0);
        Check.due("one from 1", g.cooling(1), 1);
        Check.due("one from 999", g.cooling(999), 1);
        GlassWires b = bowed(20, 1);
        Check.due("no step from 0, with a BOW", b.cooling(0), 0);
    }

    private static void coolingWhereEachStepCracks() {
        Check.of("36 NONE: each step CRACKS");
        GlassWires g = bowed(80, 25);
        g.rule(2, 1);
        Check.due("BOW", g.bow(0), -2000);
        Check.keepsEach(g, "cooling", NONE, g::cooling, 1, 2, 999);
        g.rule(2, 2);
        Check.due("steps of 1", g.cooling(999), 999);
        g.rule(2, 1);
        g.colour(0, 2, 24);
        Check.due("steps of 1 again", g.cooling(999), 999);
        GlassWires just = bowed(93, 43);
        just.rule(2, 3);
        Check.due("1 times 3999 by 1000 is 3", just.cooling(999), 999);
        just.colour(0, 2, 50);
        just.back(0, 80);
        Check.due("1 times 4000 by 1000 is 4", just.cooling(999), NONE);
        GlassWires zero = bowed(80, 25);
        zero.rule(2, 1);
        Check.due("from 0 no step is needed", zero.cooling(0), 0);
    }

    private static void coolingOfWhatIsNot() {
        Check.of("36 cooling: OUTSIDE");
        GlassWires g = bowed(80, 25);
        Check.keepsEach(g, "cooling", OUTSIDE, g::cooling, -1, 1000, LOW, TOP);
    }

    private static void coolBehindNoStep() {
        Check.of("37 a, if i is 0");
        GlassWires g = bowed(20, 1);
        Check.due("cool(999, 0)", g.cool(999, 0), 999);
        Check.due("cool(0, 0)", g.cool(0, 0), 0);
        GlassWires cracks = bowed(80, 25);
        cracks.rule(2, 1);
        Check.due("even where each step cracks", cracks.cool(999, 0), 999);
    }

    private static void coolBehindTheLastStep() {
        Check.of("37 NONE: there is no such step");
        GlassWires g = bowed(20, 1);
        g.rule(2, 1);
        Check.due("the last of 11", g.cool(999, 11), 0);
        Check.due("the last but one", g.cool(999, 10), 9);
        Check.keepsEach(g, "cool(999, ..)", NONE, i -> g.cool(999, i), -1, 12, LOW, TOP);
        Check.keepsEach(g, "cool(0, ..)", NONE, i -> g.cool(0, i), -1, 1, LOW, TOP);
        GlassWires cracks = bowed(80, 25);
        cracks.rule(2, 1);
        Check.keepsEach(cracks, "each step cracks", NONE, i -> cracks.cool(999, i), -1, 1, 999, LOW, TOP);
        cracks.rule(2, 2);
        Check.due("the last of 999", cracks.cool(999, 999), 0);
        Check.due("the first", cracks.cool(999, 1), 998);
        Check.keepsEach(cracks, "999 steps", NONE, i -> cracks.cool(999, i), -1, 1000, LOW, TOP);
    }

    private static void coolOfWhatIsNot() {
        Check.of("37 OUTSIDE: a");
        GlassWires g = bowed(20, 1);
        Check.keepsEach(g, "cool(.., 1)", OUTSIDE, a -> g.cool(a, 1), -1, 1000, LOW, TOP);
        Check.keepsEach(g, "cool(.., 0)", OUTSIDE, a -> g.cool(a, 0), -1, 1000, LOW, TOP);
        Check.keepsEach(g, "told ahead of NONE", OUTSIDE, a -> g.cool(a, -1), -1, 1000, LOW, TOP);
    }

    // ---- promises 38, 39: repairs

    private static void harmsOfNoCell() {
        Check.of("38 UNKNOWN: cell");
        GlassWires g = threeCells();
        Check.keepsEach(g, "harms(.., 999)", UNKNOWN, cell -> g.harms(cell, 999), -1, 3, 6, 63, 64, LOW, TOP);
        Check.keepsEach(g, "told ahead of OUTSIDE", UNKNOWN, cell -> g.harms(cell, 0), -1, 3, 64, LOW, TOP);
    }

    private static void harmsOfNoHeat() {
        Check.of("38 at t (1 to 999); OUTSIDE");
        GlassWires g = threeCells();
        Check.keepsEach(g, "harms(0, ..)", OUTSIDE, t -> g.harms(0, t), 0, -1, 1000, LOW, TOP);
        Check.due("harms(0, 1)", g.harms(0, 1), 0);
        Check.due("harms(0, 999)", g.harms(0, 999), 2);
    }

    private static void safeOfNoCellOrColour() {
        Check.of("39 UNKNOWN: cell, colour");
        GlassWires g = threeCells();
        Check.keepsEach(g, "safe(.., 2, 0)", UNKNOWN, cell -> g.safe(cell, 2, 0), -1, 3, 6, 63, 64, LOW, TOP);
        Check.keepsEach(g, "safe(0, .., 0)", UNKNOWN, colour -> g.safe(0, colour, 0), -1, 8, LOW, TOP);
        Check.keepsEach(g, "told ahead of OUTSIDE", UNKNOWN, cell -> g.safe(cell, 2, 2), -1, 3, 64, LOW, TOP);
        Check.keepsEach(g, "and of a colour", UNKNOWN, colour -> g.safe(0, colour, -1), -1, 8, LOW, TOP);
    }

    private static void safeOfNoSide() {
        Check.of("39 safe: OUTSIDE");
        GlassWires g = threeCells();
        Check.keepsEach(g, "safe(0, 2, ..)", OUTSIDE, side -> g.safe(0, 2, side), -1, 2, LOW, TOP);
        Check.keepsEach(g, "told ahead of NONE", OUTSIDE, side -> g.safe(2, 0, side), -1, 2, LOW, TOP);
        safeIs(g, 2, 0, NONE, NONE);
    }
}
