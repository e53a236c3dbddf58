/**
 * The first part of "Terms" and promises 1 to 17: each sentence that names a boundary case has a
 * test of its own here, which bears the sentence's words.
 */
public final class WiresBoundsTest {
    private static final int LOW = Integer.MIN_VALUE, TOP = Integer.MAX_VALUE;
    private static final int NONE = GlassWires.NONE, UNKNOWN = GlassWires.UNKNOWN;
    private static final int OUTSIDE = GlassWires.OUTSIDE, STATE = GlassWires.STATE, FULL = GlassWires.FULL;
    private static final int[][] NARROW_AND_WIDE = {{2, 2}, {2, 8}, {8, 2}, {8, 8}, {3, 5}};

    public static void main(String[] args) {
        termsOfThePlate();
        termsOfWires();
        termsOfManyWires();
        termsOfPiecesAndPaints();
        promisesOfThePlateAndThePage();
        promisesOfOneWire();
        promisesOfAllWires();
        promisesOfCells();
        Check.end();
    }

    private static void termsOfThePlate() {
        sidesAreTwoToEight();
        fourByFourAtFirst();
        fieldsAreNumberedByRows();
        pointsGoFromZeroToTheSides();
        edgesJoinPointsNextToOneAnother();
    }

    private static void termsOfWires() {
        thirtyWiresAtMost();
        oneToTwentyFourMoves();
        movesAreFourLetters();
        wiresStayOnThePlate();
        anEdgeGoneAlongAgainIsCoveredOnce();
        theFirstMoveIsNoBend();
        aBendMakesAWireStand();
        laidAtFirst();
        aNumberIsUsedAgainBehindAPlate();
        onlyLaidWiresCount();
    }

    private static void termsOfManyWires() {
        fieldsAtTheEndsOfRowsAreNotBesideOneAnother();
        aCoveredEdgeMayLieWithinACell();
        aCellHasTheNumberOfItsLeastField();
        noFreeEndAtTheRim();
        aFreeEndHasJustOneEdge();
        aJointNeedsTwoWires();
        aDoubleEdgeNeedsTwoWires();
        edgesOfTheRimAreCoveredToo();
        wiresAreHeldFromWireToWire();
        wiresAreHeldByEachOfTheirPoints();
        aLiftedWireHoldsNone();
    }

    private static void termsOfPiecesAndPaints() {
        noEdgeNoPiece();
        aPieceAtLeastForEachSet();
        halfTheOddPoints();
        setsHangTogetherByPoints();
        cellsThatMeetAtACornerMayBeAlike();
        theFirstWayWithSoFew();
        paintsFollowTheWires();
    }

    private static void promisesOfThePlateAndThePage() {
        aNewObjectIsEmpty();
        aRefusedPlateKeepsAll();
        aPlateThatIsDoneTakesAway();
        aPlateThatIsDoneLeavesTheRest();
        upToEightLetters();
        bytesAbove126();
        bytesBehindAZero();
        fortyLettersAtMost();
        lettersRefusedInOrder();
        blankTellsWhatWasThere();
        goodOfAnEmptyPage();
        goodStopsAtTheFirstThatIsNot();
        goodIsTwentyFourAtMost();
        goodOfNoPoint();
    }

    private static void promisesOfOneWire() {
        aWireTakesThePage();
        wireOfNoPoint();
        wireThatIsNone();
        wireBeyondTheLast();
        wireRefusedInOrder();
        layOfNoWire();
        solderOfNoWire();
        notSolderedAtFirst();
        aboutOfNoWire();
        aboutOfWhatIsNot();
        aboutOfALiftedWire();
        pointsFromTheFirstToTheLast();
        pointOfNoWire();
    }

    private static void promisesOfAllWires() {
        coversOfNoEdge();
        coversUpToAllWires();
        manyOfWhatIsNot();
        manyOfAnEmptyPlate();
        theGreatestCell();
        endsByYThenX();
        endBehindTheLast();
        endOfNoSort();
    }

    private static void promisesOfCells() {
        cellOfNoField();
        sizeOfNoCell();
        paintsOfTenCellsAtMost();
        paintOfNoCell();
        paintRefusedInOrder();
    }

    private static GlassWires thirtyWires() {
        GlassWires g = new GlassWires();
        for (int i = 0; i < 30; i++) {
            Check.draw(g, 1, 1, "r");
        }
        return g;
    }

    // ---- terms: the plate

    private static void sidesAreTwoToEight() {
        Check.of("THE PLATE is of w times h FIELDS (2 to 8 each)");
        GlassWires g = new GlassWires();
        for (int w = -1; w <= 10; w++) {
            for (int h = -1; h <= 10; h++) {
                boolean is = w >= 2 && w <= 8 && h >= 2 && h <= 8;
                Check.due("plate(" + w + ", " + h + ")", g.plate(w, h), is ? w * h : OUTSIDE);
            }
        }
        Check.due("the last that was one", g.count(0), 64);
    }

    private static void fourByFourAtFirst() {
        Check.of("4 by 4 at first");
        GlassWires g = new GlassWires();
        Check.due("count(0)", g.count(0), 16);
        Check.due("cell(3, 3)", g.cell(3, 3), 0);
        Check.due("cell(4, 3)", g.cell(4, 3), UNKNOWN);
        Check.due("cell(3, 4)", g.cell(3, 4), UNKNOWN);
        Check.due("digest() tells w, h", g.digest(), WiresTest.newDigest(4, 4));
    }

    private static void fieldsAreNumberedByRows() {
        Check.of("a FIELD's number is w y and x");
        for (int[] side : NARROW_AND_WIDE) {
            GlassWires g = Check.gridOf(side[0], side[1]);
            for (int y = 0; y < side[1]; y++) {
                for (int x = 0; x < side[0]; x++) {
                    Check.due("cell(" + x + ", " + y + ")", g.cell(x, y), side[0] * y + x);
                }
            }
        }
    }

    private static void pointsGoFromZeroToTheSides() {
        Check.of("POINTS (x, y), 0 to w, 0 to h, are the corners");
        for (int[] side : NARROW_AND_WIDE) {
            GlassWires g = Check.plateOf(side[0], side[1]);
            for (int y = -1; y <= side[1] + 1; y++) {
                for (int x = -1; x <= side[0] + 1; x++) {
                    boolean is = x >= 0 && x <= side[0] && y >= 0 && y <= side[1];
                    Check.due("good(" + x + ", " + y + ")", g.good(x, y), is ? 0 : UNKNOWN);
                }
            }
        }
    }

    private static void edgesJoinPointsNextToOneAnother() {
        Check.of("An EDGE joins two POINTS: of (x, y) to the right (side 0), or up (side 1)");
        for (int[] side : NARROW_AND_WIDE) {
            GlassWires g = Check.plateOf(side[0], side[1]);
            for (int y = -1; y <= side[1] + 1; y++) {
                for (int x = -1; x <= side[0] + 1; x++) {
                    boolean right = x >= 0 && x < side[0] && y >= 0 && y <= side[1];
                    boolean up = x >= 0 && x <= side[0] && y >= 0 && y < side[1];
                    Check.due("covers(" + x + ", " + y + ", 0)", g.covers(x, y, 0), right ? 0 : UNKNOWN);
                    Check.due("covers(" + x + ", " + y + ", 1)", g.covers(x, y, 1), up ? 0 : UNKNOWN);
                }
            }
        }
    }

    // ---- terms: wires

    private static void thirtyWiresAtMost() {
        Check.of("A WIRE (30 at most, numbered)");
        GlassWires g = new GlassWires();
        for (int i = 0; i < 30; i++) {
            Check.due("wire " + i, Check.draw(g, 0, 0, "r"), i);
        }
        Check.due("the 31st", Check.draw(g, 0, 0, "r"), FULL);
        g.lay(0, false);
        Check.due("a lifted one keeps its number", g.wire(0, 0), FULL);
        g.plate(4, 4);
        Check.due("behind a plate", g.wire(0, 0), 0);
    }

    private static void oneToTwentyFourMoves() {
        Check.of("MOVES, 1 to 24 of them");
        for (int moves = 0; moves <= 40; moves++) {
            GlassWires g = new GlassWires();
            int want = moves >= 1 && moves <= 24 ? 0 : STATE;
            Check.due(moves + " moves", Check.draw(g, 0, 0, Check.TO_AND_FRO.substring(0, moves)), want);
            Check.due(moves + " moves: count(1)", g.count(1), want == 0 ? 1 : 0);
        }
    }

    private static void movesAreFourLetters() {
        Check.of("MOVES r, l, u, d");
        for (char letter = 1; letter <= 126; letter++) {
            boolean is = letter == 'r' || letter == 'l' || letter == 'u' || letter == 'd';
            Check.due("code " + (int) letter, Check.draw(new GlassWires(), 2, 2, "" + letter), is ? 0 : STATE);
        }
        GlassWires g = new GlassWires();
        Check.draw(g, 2, 2, "rlud");
        int[] due = {22, 23, 22, 32, 22};
        for (int i = 0; i < due.length; i++) {
            Check.due("point(0, " + i + ")", g.point(0, i), due[i]);
        }
    }

    private static void wiresStayOnThePlate() {
        Check.of("A WIRE goes on THE PLATE");
        GlassWires g = Check.plateOf(3, 2);
        Check.due("right of it", Check.draw(g, 2, 1, "rr"), STATE);
        Check.due("left of it", Check.draw(g, 1, 1, "ll"), STATE);
        Check.due("above it", Check.draw(g, 1, 1, "uu"), STATE);
        Check.due("below it", Check.draw(g, 1, 1, "dd"), STATE);
        Check.due("out and in again", Check.draw(g, 0, 0, "lr"), STATE);
        Check.due("with the last move", Check.draw(g, 0, 0, "rrruuu"), STATE);
        Check.due("all along the rim", Check.draw(g, 0, 0, "rrruullldd"), 0);
    }

    private static void anEdgeGoneAlongAgainIsCoveredOnce() {
        Check.of("It COVERS the EDGES that it goes along");
        GlassWires g = new GlassWires();
        Check.draw(g, 1, 1, Check.TO_AND_FRO.substring(0, 24));
        Check.due("24 moves, about(0, 3)", g.about(0, 3), 1);
        Check.due("covers(1, 1, 0)", g.covers(1, 1, 0), 1);
        Check.due("many(4)", g.many(4), 1);
        Check.draw(g, 3, 3, "dlur");
        Check.due("each way once", g.about(1, 3), 4);
        Check.due("the move down", g.covers(3, 2, 1), 1);
        Check.due("the move left", g.covers(2, 2, 0), 1);
        Check.due("the move up", g.covers(2, 2, 1), 1);
        Check.due("the move right", g.covers(2, 3, 0), 1);
    }

    private static void theFirstMoveIsNoBend() {
        Check.of("BENDS: places where a MOVE is unlike the one ahead");
        GlassWires g = new GlassWires();
        String[] moves = {"r", "rrrr", "rrru", "rl", "ru", Check.TO_AND_FRO.substring(0, 24)};
        int[] bends = {0, 0, 1, 1, 1, 23};
        for (int i = 0; i < moves.length; i++) {
            int wire = Check.draw(g, 0, 0, moves[i]);
            Check.due(moves[i], g.about(wire, 1), bends[i]);
        }
    }

    private static void aBendMakesAWireStand() {
        Check.of("A WIRE STANDS, if it has a BEND, or comes to a POINT that it was at");
        GlassWires g = Check.plateOf(8, 8);
        String[] moves = {"r", "rrrrrrrr", "uuuuuuuu", "rrrrrrru", "rl", "ruld"};
        int[] stands = {0, 0, 0, 1, 1, 1};
        for (int i = 0; i < moves.length; i++) {
            int wire = Check.draw(g, 0, 0, moves[i]);
            Check.due(moves[i], g.about(wire, 2), stands[i]);
        }
    }

    private static void laidAtFirst() {
        Check.of("A WIRE is laid (at first), or lifted");
        GlassWires g = new GlassWires();
        Check.draw(g, 0, 0, "r");
        Check.due("count(2)", g.count(2), 1);
        g.lay(0, false);
        g.plate(4, 4);
        Check.draw(g, 0, 0, "r");
        Check.due("where a lifted one had its number", g.lay(0, true), 1);
    }

    private static void aNumberIsUsedAgainBehindAPlate() {
        Check.of("A WIRE that has the number of one that went has nothing of it");
        GlassWires g = new GlassWires();
        Check.draw(g, 0, 0, "rrurd");
        g.plate(4, 4);
        Check.draw(g, 1, 1, "r");
        int[] due = {1, 0, 0, 1, 1};
        for (int what = 0; what < due.length; what++) {
            Check.due("about(0, " + what + ")", g.about(0, what), due[what]);
        }
        Check.due("point(0, 1)", g.point(0, 1), 12);
        Check.due("point(0, 2)", g.point(0, 2), NONE);
    }

    private static void onlyLaidWiresCount() {
        Check.of("all that follows is by laid ones");
        GlassWires g = new GlassWires();
        Check.draw(g, 2, 0, "uuuu");
        Check.draw(g, 2, 1, "uu");
        Check.draw(g, 1, 1, "r");
        int[] due = {1, 3, 2, 3, 5, 2, 2, 8};
        manyIs(g, "laid", due);
        for (int wire = 0; wire < 3; wire++) {
            g.lay(wire, false);
        }
        manyIs(g, "lifted", 0, 0, 0, 0, 0, 0, 1, 16);
        Check.due("covers", g.covers(2, 1, 1), 0);
        Check.due("a joint", g.end(1, 0), NONE);
        for (int wire = 0; wire < 3; wire++) {
            g.lay(wire, true);
        }
        manyIs(g, "laid again", due);
    }

    private static void manyIs(GlassWires g, String when, int... answers) {
        for (int what = 0; what < answers.length; what++) {
            Check.due(when + ": many(" + what + ")", g.many(what), answers[what]);
        }
    }

    // ---- terms: what wires make together

    private static void fieldsAtTheEndsOfRowsAreNotBesideOneAnother() {
        Check.of("Two FIELDS beside one another are OPEN, if no WIRE COVERS the EDGE between");
        for (int[] side : NARROW_AND_WIDE) {
            GlassWires g = Check.plateOf(side[0], side[1]);
            for (int y = 1; y < side[1]; y++) {
                Check.draw(g, 0, y, "rrrrrrrr".substring(0, side[0]));
            }
            Check.due("rows apart", g.many(6), side[1]);
            GlassWires c = Check.plateOf(side[0], side[1]);
            for (int x = 1; x < side[0]; x++) {
                Check.draw(c, x, 0, "uuuuuuuu".substring(0, side[1]));
            }
            Check.due("columns apart", c.many(6), side[0]);
        }
        GlassWires r = new GlassWires();
        Check.draw(r, 0, 0, "rrrruuuulllldddd");
        Check.due("wires at the rim close nothing", r.many(6), 1);
    }

    private static void aCoveredEdgeMayLieWithinACell() {
        Check.of("A CELL is all FIELDS that are OPEN to one another, one by one");
        GlassWires g = Check.plateOf(2, 2);
        Check.draw(g, 1, 0, "u");
        Check.due("round a free end", g.many(6), 1);
        Check.draw(g, 1, 1, "u");
        Check.due("no way round", g.many(6), 2);
        GlassWires s = Check.plateOf(8, 8);
        for (int y = 1; y < 8; y++) {
            Check.draw(s, y % 2, y, "rrrrrrr");
        }
        Check.due("a way of 64 fields", s.size(0), 64);
        Check.due("many(6)", s.many(6), 1);
    }

    private static void aCellHasTheNumberOfItsLeastField() {
        Check.of("its number is that of its least FIELD");
        GlassWires g = Check.plateOf(3, 3);
        Check.draw(g, 1, 0, "uurd");
        Check.due("a way round by the upper row", g.cell(1, 0), 0);
        Check.draw(g, 0, 2, "r");
        Check.due("the end of that row", g.cell(0, 2), 1);
        Check.due("cell(1, 1)", g.cell(1, 1), 1);
        Check.due("cell(0, 1)", g.cell(0, 1), 0);
        Check.due("size(1)", g.size(1), 7);
        Check.due("size(6)", g.size(6), UNKNOWN);
    }

    private static void noFreeEndAtTheRim() {
        Check.of("A POINT that is not at the rim is a FREE END");
        GlassWires g = Check.plateOf(3, 3);
        for (int i = 0; i <= 3; i++) {
            Check.due("to the lower rim", endsOf(3, i, 1, "d"), inside(i));
            Check.due("to the upper rim", endsOf(3, i, 2, "u"), inside(i));
            Check.due("to the left rim", endsOf(3, 1, i, "l"), inside(i));
            Check.due("to the right rim", endsOf(3, 2, i, "r"), inside(i));
        }
        Check.draw(g, 1, 1, "r");
        Check.due("both ends inside", g.many(0), 2);
        Check.due("all of a rim", endsOf(2, 0, 0, "rr"), 0);
    }

    private static int inside(int i) {
        return i > 0 && i < 3 ? 1 : 0;
    }

    private static int endsOf(int side, int x, int y, String moves) {
        GlassWires g = Check.plateOf(side, side);
        Check.draw(g, x, y, moves);
        return g.many(0);
    }

    private static void aFreeEndHasJustOneEdge() {
        Check.of("a FREE END, if just one COVERED EDGE meets there");
        GlassWires g = Check.plateOf(2, 2);
        Check.due("no edge", g.many(0), 0);
        Check.draw(g, 1, 1, "r");
        Check.due("one", g.end(0, 0), 11);
        Check.draw(g, 1, 1, "r");
        Check.due("one that two wires cover", g.end(0, 0), 11);
        Check.draw(g, 1, 1, "u");
        Check.due("two", g.many(0), 0);
        Check.draw(g, 1, 1, "l");
        Check.due("three", g.many(0), 0);
        Check.draw(g, 1, 1, "d");
        Check.due("four", g.many(0), 0);
    }

    private static void aJointNeedsTwoWires() {
        Check.of("A JOINT is a POINT that two WIRES (or more) come to");
        GlassWires g = new GlassWires();
        Check.draw(g, 0, 0, "rruldlr");
        Check.due("one wire comes again and again", g.many(1), 0);
        Check.draw(g, 1, 2, "d");
        Check.due("two wires", g.many(1), 1);
        Check.due("where", g.end(1, 0), 11);
        Check.draw(g, 1, 1, "u");
        Check.due("three", g.end(1, 0), 11);
        Check.due("and two at the other end", g.end(1, 1), 21);
        Check.due("no more", g.many(1), 2);
        GlassWires r = new GlassWires();
        Check.draw(r, 0, 0, "r");
        Check.draw(r, 0, 0, "u");
        Check.due("at the corner of the plate", r.end(1, 0), 0);
        Check.due("one", r.many(1), 1);
    }

    private static void aDoubleEdgeNeedsTwoWires() {
        Check.of("An EDGE is DOUBLE, if two WIRES (or more) COVER it");
        GlassWires g = new GlassWires();
        Check.draw(g, 1, 1, "rlrlr");
        Check.due("one wire, again and again", g.many(2), 0);
        Check.draw(g, 2, 1, "l");
        Check.due("two wires", g.many(2), 1);
        Check.draw(g, 0, 1, "rr");
        Check.due("three", g.many(2), 1);
        g.lay(1, false);
        g.lay(2, false);
        Check.due("one again", g.many(2), 0);
    }

    private static void edgesOfTheRimAreCoveredToo() {
        Check.of("An EDGE, a JOINT at the rim counts as others do");
        GlassWires g = Check.plateOf(3, 2);
        int[][] begins = {{0, 0}, {3, 0}, {3, 2}, {0, 2}};
        String[] moves = {"r", "u", "l", "d"};
        for (int corner = 0; corner < 4; corner++) {
            Check.draw(g, begins[corner][0], begins[corner][1], moves[corner]);
            Check.draw(g, begins[corner][0], begins[corner][1], moves[corner]);
            Check.due("COVERED EDGES", g.many(4), corner + 1);
            Check.due("DOUBLE EDGES", g.many(2), corner + 1);
            Check.due("JOINTS", g.many(1), 2 * corner + 2);
            Check.due("PIECES", g.many(5), corner + 1);
        }
        endsAre(g, 1, 0, 1, 3, 10, 13, 20, 22, 23, NONE);
        endsAre(g, 0, NONE);
    }

    /** One after the other, the one that stands last: a wire of one move each, in rows to and fro. */
    private static GlassWires longChain() {
        GlassWires g = Check.plateOf(8, 8);
        String way = "rrrrrrrrulllllllluurrrrrrrruul";
        int x = 0;
        int y = 0;
        for (int i = 0; i < 29; i++) {
            char move = way.charAt(i);
            Check.draw(g, x, y, "" + move);
            x += move == 'r' ? 1 : move == 'l' ? -1 : 0;
            y += move == 'u' ? 1 : 0;
        }
        Check.draw(g, x, y, "lu");
        return g;
    }

    private static void wiresAreHeldFromWireToWire() {
        Check.of("A WIRE FLOATS, if no WIRE that STANDS is reached from it, from WIRE to WIRE by JOINTS");
        GlassWires g = longChain();
        Check.due("29 wires to the one that stands", g.many(3), 0);
        Check.due("the farthest", g.about(0, 4), 0);
        g.lay(14, false);
        Check.due("a chain that is broken", g.many(3), 14);
        Check.due("the last that floats", g.about(13, 4), 1);
        Check.due("the first that does not", g.about(15, 4), 0);
        g.lay(14, true);
        g.lay(29, false);
        Check.due("none stands", g.many(3), 29);
        GlassWires s = new GlassWires();
        Check.draw(s, 1, 1, "ru");
        Check.due("one that stands does not float", s.about(0, 4), 0);
        Check.draw(s, 1, 2, "l");
        Check.due("one beside it, without a joint", s.about(1, 4), 1);
    }

    private static void wiresAreHeldByEachOfTheirPoints() {
        Check.of("reached by JOINTS: the first POINT of a WIRE, its last, and those between");
        for (int i = 0; i <= 2; i++) {
            GlassWires byBegin = new GlassWires();
            Check.draw(byBegin, 1, 1, "rr");
            Check.draw(byBegin, 1 + i, 1, "du");
            Check.due("point " + i + ", the other's first", byBegin.about(0, 4), 0);
            GlassWires byMiddle = new GlassWires();
            Check.draw(byMiddle, 1, 1, "rr");
            Check.draw(byMiddle, 1 + i, 0, "ud");
            Check.due("point " + i + ", between the other's", byMiddle.about(0, 4), 0);
            GlassWires byEnd = new GlassWires();
            Check.draw(byEnd, 1, 1, "rr");
            Check.draw(byEnd, i, 2, "rd");
            Check.due("point " + i + ", the other's last", byEnd.about(0, 4), 0);
        }
    }

    private static void aLiftedWireHoldsNone() {
        Check.of("a lifted WIRE holds none, and does not float");
        GlassWires g = new GlassWires();
        Check.draw(g, 1, 1, "r");
        Check.draw(g, 2, 1, "ru");
        Check.due("held", g.about(0, 4), 0);
        g.lay(1, false);
        Check.due("what held it is lifted", g.about(0, 4), 1);
        g.lay(0, false);
        Check.due("lifted", g.about(0, 4), 0);
        Check.due("many(3)", g.many(3), 0);
    }

    // ---- terms: pieces and paints

    private static void noEdgeNoPiece() {
        Check.of("just all COVERED EDGES are covered");
        GlassWires g = new GlassWires();
        Check.due("none", g.many(5), 0);
        Check.draw(g, 0, 0, "r");
        Check.due("one edge", g.many(5), 1);
        g.lay(0, false);
        Check.due("none again", g.many(5), 0);
    }

    private static void aPieceAtLeastForEachSet() {
        Check.of("half the number of POINTS at which an odd number of them meets, but 1 at least");
        GlassWires g = new GlassWires();
        Check.draw(g, 0, 0, "ruld");
        Check.due("a ring has no odd point", g.many(5), 1);
        Check.draw(g, 3, 3, "ruld");
        Check.due("two rings", g.many(5), 2);
    }

    private static void halfTheOddPoints() {
        Check.of("half the number of POINTS at which an odd number of them meets");
        GlassWires g = Check.plateOf(2, 2);
        Check.draw(g, 0, 1, "rr");
        Check.due("a line", g.many(5), 1);
        Check.draw(g, 1, 0, "u");
        Check.due("three ends and a point of three", g.many(5), 2);
        Check.draw(g, 1, 1, "u");
        Check.due("a cross: four ends", g.many(5), 2);
        Check.due("all lines of the greatest plate: 28 ends", Check.gridOf(8, 8).many(5), 14);
    }

    private static void setsHangTogetherByPoints() {
        Check.of("each set of them that hangs together (by POINTS)");
        GlassWires g = new GlassWires();
        Check.draw(g, 0, 0, "ruld");
        Check.draw(g, 1, 1, "ruld");
        Check.due("rings that share a point", g.many(5), 1);
        Check.draw(g, 3, 2, "r");
        Check.due("a line one point away", g.many(5), 2);
        Check.draw(g, 2, 2, "r");
        Check.due("joined", g.many(5), 1);
        GlassWires rings = new GlassWires();
        Check.draw(rings, 0, 0, "ruld");
        Check.draw(rings, 1, 2, "rrulld");
        Check.due("a ring and a greater one", rings.many(5), 2);
        Check.due("asked again", rings.many(5), 2);
    }

    private static void cellsThatMeetAtACornerMayBeAlike() {
        Check.of("PAINTS: CELLS that have an EDGE between them get unlike ones");
        GlassWires g = Check.gridOf(2, 2);
        Check.due("paints()", g.paints(), 2);
        int[] due = {0, 1, 1, 0};
        for (int cell = 0; cell < 4; cell++) {
            Check.due("paint(" + cell + ")", g.paint(cell), due[cell]);
        }
        Check.due("one cell needs one", new GlassWires().paints(), 1);
    }

    /** Taking the least at each cell in turn would come to a fourth paint here. */
    private static void theFirstWayWithSoFew() {
        Check.of("THE FIRST such: of all ways with so few, the CELL of least number has the least");
        GlassWires g = Check.plateOf(4, 3);
        Check.draw(g, 2, 0, "uuu");
        Check.draw(g, 0, 2, "rr");
        Check.draw(g, 1, 2, "u");
        Check.draw(g, 1, 0, "ur");
        Check.due("many(6)", g.many(6), 5);
        Check.due("paints()", g.paints(), 3);
        int[][] due = {{0, 0}, {1, 1}, {2, 2}, {8, 2}, {9, 1}};
        for (int[] one : due) {
            Check.due("paint(" + one[0] + ")", g.paint(one[0]), one[1]);
        }
    }

    private static void paintsFollowTheWires() {
        Check.of("PAINTS of the CELLS as they are now");
        GlassWires g = Check.gridOf(3, 2);
        Check.due("paint(5), asked for first", g.paint(5), 1);
        Check.due("paints()", g.paints(), 2);
        g.lay(1, false);
        Check.due("two columns are one: paint(4)", g.paint(4), 0);
        g.lay(0, false);
        Check.due("rows: paint(3)", g.paint(3), 1);
        g.lay(2, false);
        Check.due("one cell", g.paints(), 1);
        Check.due("paint(0)", g.paint(0), 0);
        g.lay(0, true);
        Check.due("two cells: paint(1)", g.paint(1), 1);
        Check.due("paints()", g.paints(), 2);
        GlassWires ring = ringInThree();
        Check.due("a middle with three round it", ring.paints(), 4);
        for (int wire = 1; wire < 4; wire++) {
            ring.lay(wire, false);
        }
        Check.due("with one", ring.paints(), 2);
        ring.lay(0, false);
        Check.due("no wire", ring.paints(), 1);
    }

    private static GlassWires ringInThree() {
        GlassWires g = Check.plateOf(3, 3);
        Check.draw(g, 1, 1, "ruld");
        Check.draw(g, 2, 0, "u");
        Check.draw(g, 0, 1, "r");
        Check.draw(g, 2, 2, "u");
        return g;
    }

    // ---- promises 1 to 5: the plate and the page

    private static void aNewObjectIsEmpty() {
        Check.of("1 An empty plate of 4 by 4");
        GlassWires g = new GlassWires();
        int[] counts = {16, 0, 0, 0, 0, 0};
        for (int what = 0; what < counts.length; what++) {
            Check.due("count(" + what + ")", g.count(what), counts[what]);
        }
        manyIs(g, "at first", 0, 0, 0, 0, 0, 0, 1, 16);
        Check.due("state(5)", g.state(5), 0);
        Check.due("pull(1)", g.pull(1), 0);
        Check.due("blank()", g.blank(), 0);
    }

    /** Something of everything that a plate takes away or leaves. */
    private static GlassWires busy() {
        GlassWires g = new GlassWires();
        Check.draw(g, 1, 0, "uuuu");
        g.solder(0, true);
        g.fill(0, 1, 5);
        g.fire(800);
        g.back(3, 12);
        g.rod(9, 2);
        Check.write(g, Check.TO_AND_FRO);
        return g;
    }

    private static void aRefusedPlateKeepsAll() {
        Check.of("2 plate: OUTSIDE");
        GlassWires g = busy();
        int[][] bad = {{1, 4}, {4, 1}, {9, 4}, {4, 9}, {0, 4}, {4, 0}, {-4, -4}, {LOW, LOW}, {TOP, TOP}, {LOW, 4},
            {4, TOP}, {1 << 16, 1 << 16}, {(1 << 30) + 1, 4}};
        for (int[] side : bad) {
            Check.keeps(g, "plate(" + side[0] + ", " + side[1] + ")", OUTSIDE, () -> g.plate(side[0], side[1]));
        }
        Check.due("cells are kept", g.many(6), 2);
    }

    private static void aPlateThatIsDoneTakesAway() {
        Check.of("2 THE PLATE becomes w by h, without WIRES, glass, back, RODS");
        GlassWires g = busy();
        g.blank();
        Check.due("plate(4, 4), as it was", g.plate(4, 4), 16);
        Check.due("as a new object", g.digest(), WiresTest.newDigest(4, 4));
        manyIs(g, "no wire is left", 0, 0, 0, 0, 0, 0, 1, 16);
        GlassWires s = Check.gridOf(8, 8);
        for (int cell = 0; cell < 64; cell++) {
            s.fill(cell, 0, 1);
        }
        Check.due("from the greatest to the least", s.plate(2, 2), 4);
        Check.due("cell(1, 1)", s.cell(1, 1), 0);
        Check.due("size(63)", s.size(63), UNKNOWN);
        Check.due("count(5)", s.count(5), 0);
        s.plate(8, 8);
        Check.due("and back: no glass", s.count(5), 0);
        Check.due("one cell", s.size(0), 64);
    }

    private static void aPlateThatIsDoneLeavesTheRest() {
        Check.of("2 (COLOURS, FOES, WALL and so on, THE PAGE stay)");
        GlassWires g = busy();
        g.colour(7, 0, 900);
        g.colour(7, 1, 9);
        g.colour(7, 2, 99);
        g.foes(6, 7, true);
        g.rule(0, 99);
        g.rule(1, 98);
        g.rule(2, 999);
        g.plate(2, 2);
        Check.due("HEAT", g.colour(7, 0, 1), 900);
        Check.due("SHRINK", g.colour(7, 1, 1), 9);
        Check.due("PULL", g.colour(7, 2, 1), 99);
        Check.due("FOES", g.foes(6, 7, false), 1);
        Check.due("WALL", g.rule(0, 1), 99);
        Check.due("STIFF", g.rule(1, 1), 98);
        Check.due("BEAR", g.rule(2, 1), 999);
        Check.due("a full page", g.blank(), 40);
    }

    private static void upToEightLetters() {
        Check.of("3 Letters come behind THE PAGE, up to eight, until a byte that is 0");
        for (int letters = 0; letters <= 8; letters++) {
            GlassWires g = new GlassWires();
            Check.write(g, "x");
            String more = "abcdefgh".substring(0, letters);
            long h = g.digest();
            Check.due(letters + " letters", g.letters(Check.packed(more)), 1 + letters);
            for (char letter : more.toCharArray()) {
                h = 31 * h + letter;
            }
            Check.due(letters + " letters: digest()", g.digest(), h);
        }
        GlassWires e = new GlassWires();
        Check.due("the greatest of eight", e.letters(0x7E7E7E7E7E7E7E7EL), 8);
        Check.due("the least of eight", e.letters(0x0101010101010101L), 16);
    }

    private static void bytesAbove126() {
        Check.of("3 OUTSIDE: a byte above 126");
        for (int place = 0; place < 8; place++) {
            GlassWires g = new GlassWires();
            long ahead = Check.packed("rrrrrrrr".substring(0, place));
            for (long code = 127; code <= 255; code++) {
                long w = ahead | code << 8 * place;
                Check.keeps(g, "code " + code + " at " + place, OUTSIDE, () -> g.letters(w));
            }
            Check.due("126 at " + place, g.letters(ahead | 126L << 8 * place), place + 1);
        }
        GlassWires g = new GlassWires();
        Check.keeps(g, "letters(-1)", OUTSIDE, () -> g.letters(-1L));
        Check.keeps(g, "the least long", OUTSIDE, () -> g.letters(Long.MIN_VALUE));
        Check.keeps(g, "the greatest long", OUTSIDE, () -> g.letters(Long.MAX_VALUE));
    }

    private static void bytesBehindAZero() {
        Check.of("3 OUTSIDE: one behind a 0 that is not 0");
        GlassWires g = new GlassWires();
        for (int zero = 0; zero < 8; zero++) {
            long ahead = Check.packed("rrrrrrrr".substring(0, zero));
            for (int place = zero + 1; place < 8; place++) {
                long w = ahead | 1L << 8 * place;
                Check.keeps(g, "0 at " + zero + ", 1 at " + place, OUTSIDE, () -> g.letters(w));
            }
            Check.due("0 at " + zero, g.letters(ahead), zero);
            g.blank();
        }
    }

    private static void fortyLettersAtMost() {
        Check.of("3 FULL: above 40");
        for (int had = 32; had <= 40; had++) {
            for (int more = 0; more <= 8; more++) {
                GlassWires g = new GlassWires();
                Check.write(g, Check.TO_AND_FRO.substring(0, had));
                long w = Check.packed("aaaaaaaa".substring(0, more));
                if (had + more > 40) {
                    Check.keeps(g, had + " and " + more, FULL, () -> g.letters(w));
                } else {
                    Check.due(had + " and " + more, g.letters(w), had + more);
                }
                Check.due("count(3)", g.count(3), had + more > 40 ? had : had + more);
            }
        }
    }

    private static void lettersRefusedInOrder() {
        Check.of("3 OUTSIDE is told ahead of FULL");
        GlassWires g = new GlassWires();
        Check.write(g, Check.TO_AND_FRO);
        Check.keeps(g, "a byte above 126", OUTSIDE, () -> g.letters(127));
        Check.keeps(g, "a byte behind a 0", OUTSIDE, () -> g.letters(0x6100L));
        Check.keeps(g, "a letter", FULL, () -> g.letters('a'));
    }

    private static void blankTellsWhatWasThere() {
        Check.of("4 THE PAGE is empty: how many letters it had");
        GlassWires g = new GlassWires();
        Check.due("an empty page", g.blank(), 0);
        Check.write(g, Check.TO_AND_FRO);
        Check.due("a full page", g.blank(), 40);
        Check.due("empty now", g.blank(), 0);
        Check.due("as a new object", g.digest(), WiresTest.newDigest(4, 4));
    }

    private static void goodOfAnEmptyPage() {
        Check.of("5 How many letters of THE PAGE are MOVES: an empty page");
        GlassWires g = new GlassWires();
        Check.due("good(2, 2)", g.good(2, 2), 0);
        Check.draw(g, 2, 2, "rr");
        Check.due("behind a wire", g.good(2, 2), 0);
        Check.write(g, "rr");
        g.blank();
        Check.due("behind blank()", g.good(2, 2), 0);
    }

    private static void goodStopsAtTheFirstThatIsNot() {
        Check.of("5 MOVES that stay on THE PLATE, from a POINT on");
        GlassWires g = Check.plateOf(3, 2);
        Check.write(g, "rrruudlll");
        Check.due("all", g.good(0, 0), 9);
        Check.due("over the right rim", g.good(1, 0), 2);
        Check.due("over the upper rim", g.good(0, 1), 4);
        Check.due("the first goes out", g.good(3, 2), 0);
        g.blank();
        Check.write(g, "lr");
        Check.due("out and in again", g.good(0, 0), 0);
        g.blank();
        Check.write(g, "dud");
        Check.due("over the lower rim", g.good(0, 0), 0);
        Check.due("one above it", g.good(0, 1), 3);
        g.blank();
        Check.write(g, "rRr");
        Check.due("a letter that is no move", g.good(0, 0), 1);
        Check.keeps(g, "good(0, 0)", 1, () -> g.good(0, 0));
    }

    private static void goodIsTwentyFourAtMost() {
        Check.of("5 (24 at most)");
        for (int letters = 23; letters <= 40; letters++) {
            GlassWires g = new GlassWires();
            Check.write(g, Check.TO_AND_FRO.substring(0, letters));
            Check.due(letters + " letters", g.good(0, 0), Math.min(letters, 24));
        }
        GlassWires x = new GlassWires();
        Check.write(x, Check.TO_AND_FRO.substring(0, 24) + "x");
        Check.due("the 25th is no move", x.good(0, 0), 24);
    }

    private static void goodOfNoPoint() {
        Check.of("5 UNKNOWN: x, y");
        GlassWires g = new GlassWires();
        Check.write(g, "l");
        int[][] bad = {{-1, 0}, {0, -1}, {5, 0}, {0, 5}, {5, 5}, {LOW, 0}, {0, LOW}, {TOP, 0}, {0, TOP}};
        for (int[] at : bad) {
            Check.keeps(g, "good(" + at[0] + ", " + at[1] + ")", UNKNOWN, () -> g.good(at[0], at[1]));
        }
    }

    // ---- promises 6 to 10: one wire

    private static void aWireTakesThePage() {
        Check.of("6 THE PAGE is read as MOVES of a WIRE: its number; THE PAGE is empty then");
        GlassWires g = new GlassWires();
        Check.write(g, Check.TO_AND_FRO.substring(0, 24));
        Check.due("wire(4, 4) goes out", g.wire(4, 4), STATE);
        Check.due("the page is kept", g.count(3), 24);
        Check.due("wire(3, 4)", g.wire(3, 4), 0);
        Check.due("the page is empty", g.count(3), 0);
        Check.due("no second one of it", g.wire(3, 4), STATE);
    }

    private static void wireOfNoPoint() {
        Check.of("6 UNKNOWN: x, y");
        GlassWires g = new GlassWires();
        Check.write(g, "l");
        int[][] bad = {{-1, 0}, {0, -1}, {5, 0}, {0, 5}, {LOW, 0}, {0, LOW}, {TOP, 0}, {0, TOP}};
        for (int[] at : bad) {
            Check.keeps(g, "wire(" + at[0] + ", " + at[1] + ")", UNKNOWN, () -> g.wire(at[0], at[1]));
        }
    }

    private static void wireThatIsNone() {
        Check.of("6 STATE: it is none");
        String[] pages = {"", "x", "rx", "xr", "rrrrr", Check.TO_AND_FRO.substring(0, 25), Check.TO_AND_FRO};
        for (String page : pages) {
            GlassWires g = new GlassWires();
            Check.write(g, page);
            Check.keeps(g, "wire(0, 0) of " + page, STATE, () -> g.wire(0, 0));
            Check.due("no wire", g.count(1), 0);
        }
    }

    private static void wireBeyondTheLast() {
        Check.of("6 FULL");
        GlassWires g = thirtyWires();
        Check.write(g, "r");
        Check.keeps(g, "the 31st", FULL, () -> g.wire(0, 0));
        Check.due("count(1)", g.count(1), 30);
        Check.due("no edge is covered", g.covers(0, 0, 0), 0);
    }

    private static void wireRefusedInOrder() {
        Check.of("6 UNKNOWN, then STATE, then FULL");
        GlassWires g = thirtyWires();
        Check.keeps(g, "no point, no wire, no room", UNKNOWN, () -> g.wire(5, 0));
        Check.keeps(g, "no wire, no room", STATE, () -> g.wire(0, 0));
        Check.write(g, "r");
        Check.keeps(g, "no point, no room", UNKNOWN, () -> g.wire(0, -1));
        Check.keeps(g, "no room", FULL, () -> g.wire(0, 0));
        GlassWires e = new GlassWires();
        Check.keeps(e, "no point, no wire", UNKNOWN, () -> e.wire(-1, 0));
    }

    private static void layOfNoWire() {
        Check.of("7 lay: UNKNOWN");
        GlassWires e = new GlassWires();
        Check.keepsEach(e, "lay", UNKNOWN, wire -> e.lay(wire, false), -1, 0, LOW, TOP);
        GlassWires g = thirtyWires();
        Check.keepsEach(g, "lay", UNKNOWN, wire -> g.lay(wire, false), -1, 30, 31, LOW, TOP);
        Check.due("the last", g.lay(29, false), 1);
        Check.due("again", g.lay(29, false), 0);
        Check.due("laid again", g.lay(29, true), 0);
        Check.due("it was", g.lay(29, true), 1);
        g.plate(4, 4);
        Check.keepsEach(g, "lay behind a plate", UNKNOWN, wire -> g.lay(wire, true), 0, 29);
    }

    private static void solderOfNoWire() {
        Check.of("8 solder: UNKNOWN");
        GlassWires e = new GlassWires();
        Check.keepsEach(e, "solder", UNKNOWN, wire -> e.solder(wire, true), -1, 0, LOW, TOP);
        GlassWires g = thirtyWires();
        Check.keepsEach(g, "solder", UNKNOWN, wire -> g.solder(wire, true), -1, 30, 31, LOW, TOP);
        Check.due("the last", g.solder(29, true), 0);
        Check.due("it was", g.solder(29, true), 1);
        Check.due("no more", g.solder(29, false), 1);
        Check.due("it was not", g.solder(29, false), 0);
        g.plate(4, 4);
        Check.keepsEach(g, "solder behind a plate", UNKNOWN, wire -> g.solder(wire, true), 0, 29);
    }

    private static void notSolderedAtFirst() {
        Check.of("8 A WIRE is SOLDERED, or not (at first)");
        GlassWires g = new GlassWires();
        Check.draw(g, 0, 0, "r");
        Check.due("at first", g.solder(0, true), 0);
        g.plate(4, 4);
        Check.draw(g, 0, 0, "r");
        Check.due("where a soldered one had its number", g.solder(0, false), 0);
        g.lay(0, false);
        Check.due("a lifted one", g.solder(0, true), 0);
        Check.due("is soldered too", g.solder(0, true), 1);
    }

    private static void aboutOfNoWire() {
        Check.of("9 about: UNKNOWN: wire");
        GlassWires e = new GlassWires();
        Check.keepsEach(e, "about(.., 0)", UNKNOWN, wire -> e.about(wire, 0), -1, 0, LOW, TOP);
        GlassWires g = thirtyWires();
        Check.keepsEach(g, "about(.., 0)", UNKNOWN, wire -> g.about(wire, 0), -1, 30, LOW, TOP);
        Check.keepsEach(g, "UNKNOWN is told ahead of OUTSIDE", UNKNOWN, wire -> g.about(wire, 5), -1, 30, LOW, TOP);
        Check.due("the last", g.about(29, 0), 1);
    }

    private static void aboutOfWhatIsNot() {
        Check.of("9 about: OUTSIDE");
        GlassWires g = new GlassWires();
        Check.draw(g, 1, 1, "r");
        Check.keepsEach(g, "about(0, ..)", OUTSIDE, what -> g.about(0, what), -1, 5, LOW, TOP);
        int[] due = {1, 0, 0, 1, 1};
        for (int what = 0; what < due.length; what++) {
            Check.due("about(0, " + what + ")", g.about(0, what), due[what]);
        }
    }

    private static void aboutOfALiftedWire() {
        Check.of("9 whether it FLOATS (1, 0; of a lifted one 0)");
        GlassWires g = new GlassWires();
        Check.draw(g, 1, 1, "r");
        Check.due("laid", g.about(0, 4), 1);
        g.lay(0, false);
        Check.due("lifted", g.about(0, 4), 0);
        Check.due("its moves", g.about(0, 0), 1);
        Check.due("its edges", g.about(0, 3), 1);
        g.lay(0, true);
        Check.due("laid again", g.about(0, 4), 1);
    }

    private static void pointsFromTheFirstToTheLast() {
        Check.of("10 The i-th POINT (0: where it begins) of a WIRE: 10 times y, and x; NONE");
        GlassWires g = Check.plateOf(8, 8);
        Check.draw(g, 8, 8, "lrlrlrlrlrlrlrlrlrlrlrlr");
        Check.due("where it begins", g.point(0, 0), 88);
        Check.due("the last but one", g.point(0, 23), 87);
        Check.due("the last", g.point(0, 24), 88);
        Check.keepsEach(g, "point(0, ..)", NONE, i -> g.point(0, i), -1, 25, LOW, TOP);
        Check.draw(g, 0, 0, "u");
        Check.due("the least", g.point(1, 0), 0);
        Check.due("one up", g.point(1, 1), 10);
        Check.keepsEach(g, "point(1, ..)", NONE, i -> g.point(1, i), -1, 2, 24, 25);
    }

    private static void pointOfNoWire() {
        Check.of("10 point: UNKNOWN");
        GlassWires e = new GlassWires();
        Check.keepsEach(e, "point(.., 0)", UNKNOWN, wire -> e.point(wire, 0), -1, 0, LOW, TOP);
        GlassWires g = thirtyWires();
        Check.keepsEach(g, "point(.., 0)", UNKNOWN, wire -> g.point(wire, 0), -1, 30, LOW, TOP);
        Check.keepsEach(g, "point(.., -1)", UNKNOWN, wire -> g.point(wire, -1), -1, 30, LOW, TOP);
        Check.due("the last", g.point(29, 1), 12);
    }

    // ---- promises 11 to 13: all wires

    private static void coversOfNoEdge() {
        Check.of("11 UNKNOWN: it is none");
        GlassWires g = new GlassWires();
        Check.keepsEach(g, "covers(0, 0, ..)", UNKNOWN, side -> g.covers(0, 0, side), -1, 2, 3, LOW, TOP);
        Check.keepsEach(g, "covers(.., 0, 0)", UNKNOWN, x -> g.covers(x, 0, 0), -1, 4, 5, LOW, TOP);
        Check.keepsEach(g, "covers(.., 0, 1)", UNKNOWN, x -> g.covers(x, 0, 1), -1, 5, LOW, TOP);
        Check.keepsEach(g, "covers(0, .., 0)", UNKNOWN, y -> g.covers(0, y, 0), -1, 5, LOW, TOP);
        Check.keepsEach(g, "covers(0, .., 1)", UNKNOWN, y -> g.covers(0, y, 1), -1, 4, 5, LOW, TOP);
    }

    private static void coversUpToAllWires() {
        Check.of("11 How many WIRES COVER an EDGE");
        GlassWires g = thirtyWires();
        Check.due("all 30", g.covers(1, 1, 0), 30);
        Check.due("none", g.covers(1, 1, 1), 0);
        g.lay(29, false);
        Check.due("29", g.covers(1, 1, 0), 29);
        GlassWires e = Check.plateOf(8, 8);
        Check.draw(e, 8, 8, "l");
        Check.draw(e, 8, 8, "d");
        Check.due("the last edge to the right", e.covers(7, 8, 0), 1);
        Check.due("the last edge up", e.covers(8, 7, 1), 1);
    }

    private static void manyOfWhatIsNot() {
        Check.of("12 many: OUTSIDE");
        GlassWires g = new GlassWires();
        Check.keepsEach(g, "many", OUTSIDE, g::many, -1, 8, LOW, TOP);
        Check.due("many(0)", g.many(0), 0);
        Check.due("many(7)", g.many(7), 16);
    }

    private static void manyOfAnEmptyPlate() {
        Check.of("12 How many, of none and of all");
        manyIs(Check.plateOf(2, 2), "the least", 0, 0, 0, 0, 0, 0, 1, 4);
        manyIs(Check.plateOf(8, 8), "the greatest", 0, 0, 0, 0, 0, 0, 1, 64);
        manyIs(Check.gridOf(8, 8), "all lines", 0, 49, 0, 14, 112, 14, 64, 1);
        manyIs(thirtyWires(), "30 wires on one edge", 2, 2, 1, 30, 1, 1, 1, 16);
    }

    private static void theGreatestCell() {
        Check.of("12 FIELDS of the greatest CELL");
        GlassWires g = Check.plateOf(2, 3);
        Check.due("one cell", g.many(7), 6);
        Check.draw(g, 0, 1, "rr");
        Check.due("the upper is greater", g.many(7), 4);
        g.lay(0, false);
        Check.draw(g, 0, 2, "rr");
        Check.due("the lower is greater", g.many(7), 4);
        g.lay(0, true);
        Check.due("three of like size", g.many(7), 2);
    }

    private static void endsByYThenX() {
        Check.of("13 The i-th FREE END (sort 0), JOINT (1), by y, then x");
        GlassWires g = Check.plateOf(8, 8);
        Check.draw(g, 7, 1, "u");
        Check.draw(g, 1, 7, "r");
        Check.draw(g, 1, 1, "r");
        int[] free = {11, 12, 17, 27, 71, 72, NONE};
        endsAre(g, 0, free);
        endsAre(g, 1, NONE);
        Check.draw(g, 8, 8, "l");
        Check.draw(g, 8, 8, "d");
        Check.draw(g, 0, 0, "r");
        Check.draw(g, 0, 0, "u");
        Check.draw(g, 8, 0, "l");
        Check.draw(g, 8, 0, "u");
        endsAre(g, 0, free);
        endsAre(g, 1, 0, 8, 88, NONE);
    }

    private static void endsAre(GlassWires g, int sort, int... answers) {
        for (int i = 0; i < answers.length; i++) {
            Check.due("end(" + sort + ", " + i + ")", g.end(sort, i), answers[i]);
        }
    }

    private static void endBehindTheLast() {
        Check.of("13 end: NONE");
        GlassWires e = new GlassWires();
        Check.keepsEach(e, "end(0, ..)", NONE, i -> e.end(0, i), -1, 0, 1, LOW, TOP);
        Check.keepsEach(e, "end(1, ..)", NONE, i -> e.end(1, i), -1, 0, 1, LOW, TOP);
        GlassWires g = Check.gridOf(8, 8);
        Check.due("the first of 49", g.end(1, 0), 11);
        Check.due("the last", g.end(1, 48), 77);
        Check.keepsEach(g, "end(1, ..)", NONE, i -> g.end(1, i), -1, 49, LOW, TOP);
    }

    private static void endOfNoSort() {
        Check.of("13 OUTSIDE: sort");
        GlassWires g = Check.gridOf(3, 3);
        Check.keepsEach(g, "end(.., 0)", OUTSIDE, sort -> g.end(sort, 0), -1, 2, LOW, TOP);
        Check.keepsEach(g, "end(.., -1)", OUTSIDE, sort -> g.end(sort, -1), -1, 2, LOW, TOP);
    }

    // ---- promises 14 to 17: cells

    private static void cellOfNoField() {
        Check.of("14 cell: UNKNOWN");
        for (int[] side : NARROW_AND_WIDE) {
            GlassWires g = Check.plateOf(side[0], side[1]);
            Check.keepsEach(g, "cell(.., 0)", UNKNOWN, x -> g.cell(x, 0), -1, side[0], side[0] + 1, LOW, TOP);
            Check.keepsEach(g, "cell(0, ..)", UNKNOWN, y -> g.cell(0, y), -1, side[1], side[1] + 1, LOW, TOP);
            Check.due("the last", g.cell(side[0] - 1, side[1] - 1), 0);
        }
    }

    private static void sizeOfNoCell() {
        Check.of("15 UNKNOWN: it is the number of no CELL");
        GlassWires g = Check.plateOf(2, 3);
        Check.keepsEach(g, "size", UNKNOWN, g::size, -1, 1, 5, 6, 63, 64, LOW, TOP);
        Check.due("size(0)", g.size(0), 6);
        Check.draw(g, 1, 2, "u");
        Check.draw(g, 1, 2, "r");
        Check.due("size(5)", g.size(5), 1);
        Check.keepsEach(g, "size", UNKNOWN, g::size, 1, 4, 6);
        g.lay(0, false);
        Check.keepsEach(g, "size", UNKNOWN, g::size, 5);
        GlassWires all = Check.gridOf(8, 8);
        Check.due("size(63)", all.size(63), 1);
        Check.keepsEach(all, "size", UNKNOWN, all::size, -1, 64);
    }

    private static void paintsOfTenCellsAtMost() {
        Check.of("16 STATE: there are more than 10 CELLS");
        GlassWires ten = Check.gridOf(5, 2);
        Check.due("10 cells", ten.paints(), 2);
        Check.due("the last of them", ten.paint(9), 1);
        GlassWires twelve = Check.gridOf(4, 3);
        Check.keeps(twelve, "12 cells", STATE, twelve::paints);
        GlassWires eleven = Check.gridOf(4, 3);
        eleven.lay(0, false);
        Check.due("9 cells", eleven.paints(), 2);
        Check.draw(eleven, 1, 0, "uu");
        Check.due("count of cells", eleven.many(6), 11);
        Check.keeps(eleven, "11 cells", STATE, eleven::paints);
        GlassWires all = Check.gridOf(8, 8);
        Check.keeps(all, "64 cells", STATE, all::paints);
    }

    private static void paintOfNoCell() {
        Check.of("17 paint: UNKNOWN");
        GlassWires g = Check.gridOf(2, 2);
        Check.keepsEach(g, "paint", UNKNOWN, g::paint, -1, 4, 63, 64, LOW, TOP);
        Check.due("paint(3)", g.paint(3), 0);
        g.lay(0, false);
        Check.keepsEach(g, "paint of a number that is no more", UNKNOWN, g::paint, 1, 3);
    }

    private static void paintRefusedInOrder() {
        Check.of("17 UNKNOWN; STATE, as paints()");
        GlassWires g = Check.gridOf(4, 3);
        Check.keepsEach(g, "paint", STATE, g::paint, 0, 11);
        Check.keepsEach(g, "paint of none", UNKNOWN, g::paint, -1, 12, LOW, TOP);
    }
}
