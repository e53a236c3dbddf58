import java.math.BigInteger;
import java.util.ArrayList;
import java.util.List;

/**
 * The fourth part of "Terms" and promises 40 to 43: each sentence that names a boundary case has a
 * test of its own here, which bears the sentence's words.
 */
public final class RodsBoundsTest {
    private static final int LOW = Integer.MIN_VALUE, TOP = Integer.MAX_VALUE;
    private static final int NONE = GlassWires.NONE;
    private static final int OUTSIDE = GlassWires.OUTSIDE, STATE = GlassWires.STATE, FULL = GlassWires.FULL;

    public static void main(String[] args) {
        termsOfRods();
        promisesOfRods();
        promisesOfWhatIsTold();
        Check.end();
    }

    private static void termsOfRods() {
        eightKindsAtMost();
        lengthIsOneTo99();
        soManyAreNoneTo20();
        aWireIsAsLongAsItsMoves();
        onlyLaidWiresAreCut();
        aWireIsOfOneRodWhole();
        aRodMayGiveSeveral();
        eightWiresAtMost();
        fewestRods();
        ofLikeOnesLeastWaste();
    }

    private static void promisesOfRods() {
        rodOfWhatIsNot();
        rodBeyondTheLast();
        rodRefusedInOrder();
        cutWhereRodsDoNotDo();
        cutOfNoWires();
        cutOfWhatIsNot();
        cutOfMoreThanEight();
        cutRefusedInOrder();
    }

    private static void promisesOfWhatIsTold() {
        countOfWhatIsNot();
        countOfNoneAndOfAll();
        digestOfAnEmptyPlate();
        digestOfTheLeastOfEach();
        digestOfLayersByFields();
        digestWraps();
    }

    /** Wires of these lengths, going to and fro. */
    private static GlassWires wires(int... lengths) {
        GlassWires g = new GlassWires();
        for (int length : lengths) {
            Check.draw(g, 0, 0, Check.TO_AND_FRO.substring(0, length));
        }
        return g;
    }

    private static void cutIs(GlassWires g, String when, int rods, int waste) {
        Check.keeps(g, when + ": cut(0)", rods, () -> g.cut(0));
        Check.keeps(g, when + ": cut(1)", waste, () -> g.cut(1));
    }

    // ---- terms

    private static void eightKindsAtMost() {
        Check.of("RODS of a kind (8 kinds at most, numbered)");
        GlassWires g = wires(8);
        for (int kind = 0; kind < 8; kind++) {
            Check.due("kind " + kind, g.rod(1 + kind, 1), kind);
        }
        Check.keeps(g, "the ninth", FULL, () -> g.rod(1, 1));
        cutIs(g, "the eighth is used", 1, 0);
        g.plate(4, 4);
        Check.due("behind a plate", g.rod(1, 1), 0);
    }

    private static void lengthIsOneTo99() {
        Check.of("a length (1 to 99)");
        for (int length = -1; length <= 101; length++) {
            boolean is = length >= 1 && length <= 99;
            Check.due("rod(" + length + ", 1)", new GlassWires().rod(length, 1), is ? 0 : OUTSIDE);
        }
        GlassWires least = wires(1);
        least.rod(1, 1);
        cutIs(least, "a rod of 1", 1, 0);
        GlassWires most = wires(1);
        most.rod(99, 1);
        cutIs(most, "a rod of 99", 1, 98);
    }

    private static void soManyAreNoneTo20() {
        Check.of("and are so many (0 to 20)");
        for (int many = -1; many <= 22; many++) {
            boolean is = many >= 0 && many <= 20;
            Check.due("rod(5, " + many + ")", new GlassWires().rod(5, many), is ? 0 : OUTSIDE);
        }
        GlassWires none = wires(3);
        none.rod(5, 0);
        cutIs(none, "none of a kind", NONE, NONE);
        none.rod(5, 1);
        cutIs(none, "one of another", 1, 2);
        GlassWires all = wires(3, 3, 3, 3, 3, 3, 3, 3);
        all.rod(5, 7);
        cutIs(all, "one lacks", NONE, NONE);
        all.rod(4, 20);
        cutIs(all, "20 of another kind", 8, 8);
    }

    private static void aWireIsAsLongAsItsMoves() {
        Check.of("each laid WIRE's MOVES are its length");
        GlassWires g = wires(24);
        Check.due("it covers one edge", g.about(0, 3), 1);
        g.rod(23, 20);
        cutIs(g, "23 is too short", NONE, NONE);
        g.rod(24, 1);
        cutIs(g, "24 just does", 1, 0);
    }

    private static void onlyLaidWiresAreCut() {
        Check.of("each laid WIRE");
        GlassWires g = wires(5, 24);
        g.rod(6, 1);
        cutIs(g, "both are laid", NONE, NONE);
        g.lay(1, false);
        cutIs(g, "one is", 1, 1);
        g.lay(0, false);
        cutIs(g, "none is", 0, 0);
    }

    private static void aWireIsOfOneRodWhole() {
        Check.of("of one ROD whole");
        GlassWires g = wires(10);
        g.rod(9, 20);
        cutIs(g, "two of 9 do not make 10", NONE, NONE);
        GlassWires two = wires(5, 5);
        two.rod(9, 1);
        cutIs(two, "9 gives one of 5", NONE, NONE);
        two.rod(1, 20);
        cutIs(two, "what is left is not put together", NONE, NONE);
    }

    private static void aRodMayGiveSeveral() {
        Check.of("a ROD may give several");
        GlassWires g = wires(1, 2, 3, 4, 5, 6, 7, 8);
        g.rod(36, 1);
        cutIs(g, "all eight of one", 1, 0);
        GlassWires less = wires(1, 2, 3, 4, 5, 6, 7, 8);
        less.rod(35, 1);
        cutIs(less, "1 lacks", NONE, NONE);
        less.rod(1, 1);
        cutIs(less, "and a rod of 1", 2, 0);
    }

    private static void eightWiresAtMost() {
        Check.of("8 WIRES at most");
        GlassWires g = wires(24, 24, 24, 24, 24, 24, 24, 24);
        g.rod(99, 20);
        cutIs(g, "eight", 2, 6);
        Check.draw(g, 0, 0, "r");
        cutIs(g, "nine", STATE, STATE);
        GlassWires one = wires(1, 1, 1, 1, 1, 1, 1, 1);
        one.rod(1, 20);
        cutIs(one, "a rod for each", 8, 0);
    }

    private static void fewestRods() {
        Check.of("FEWEST RODS");
        GlassWires g = wires(4, 4, 4);
        g.rod(4, 20);
        cutIs(g, "three of 4", 3, 0);
        g.rod(8, 1);
        cutIs(g, "one of 8", 2, 0);
        g.rod(99, 1);
        cutIs(g, "one of 99, whatever is wasted", 1, 87);
        GlassWires hard = wires(6, 5, 5, 4, 4, 3, 2, 1);
        hard.rod(10, 3);
        cutIs(hard, "three rods without waste", 3, 0);
        GlassWires greedy = wires(5, 4, 4, 3, 2, 2);
        greedy.rod(10, 2);
        cutIs(greedy, "not always the longest first", 2, 0);
    }

    private static void ofLikeOnesLeastWaste() {
        Check.of("of like ones least WASTE (lengths of RODS that are used, less those of WIRES)");
        GlassWires g = wires(3, 5);
        g.rod(9, 2);
        cutIs(g, "one of 9", 1, 1);
        g.rod(8, 1);
        cutIs(g, "one of 8", 1, 0);
        GlassWires two = wires(7, 7);
        two.rod(13, 2);
        cutIs(two, "two of 13", 2, 12);
        two.rod(8, 1);
        cutIs(two, "13 and 8", 2, 7);
        two.rod(7, 1);
        cutIs(two, "8 and 7", 2, 1);
        GlassWires most = wires(24, 24, 24, 24, 24, 24, 24, 1);
        most.rod(47, 20);
        cutIs(most, "much waste", 7, 7 * 47 - 169);
        GlassWires eight = wires(24, 24, 24, 24, 24, 24, 24, 24);
        eight.rod(47, 20);
        cutIs(eight, "the most", 8, 8 * 23);
    }

    // ---- promises 40, 41

    private static void rodOfWhatIsNot() {
        Check.of("40 rod: OUTSIDE");
        GlassWires g = new GlassWires();
        Check.keepsEach(g, "rod(.., 5)", OUTSIDE, length -> g.rod(length, 5), 0, -1, 100, LOW, TOP);
        Check.keepsEach(g, "rod(5, ..)", OUTSIDE, many -> g.rod(5, many), -1, 21, LOW, TOP);
        Check.due("count(4)", g.count(4), 0);
    }

    private static GlassWires eightKinds() {
        GlassWires g = new GlassWires();
        for (int kind = 0; kind < 8; kind++) {
            g.rod(99, 20);
        }
        return g;
    }

    private static void rodBeyondTheLast() {
        Check.of("40 rod: FULL");
        GlassWires g = eightKinds();
        Check.keeps(g, "rod(99, 20)", FULL, () -> g.rod(99, 20));
        Check.keeps(g, "rod(1, 0)", FULL, () -> g.rod(1, 0));
        Check.due("count(4)", g.count(4), 8);
    }

    private static void rodRefusedInOrder() {
        Check.of("40 OUTSIDE is told ahead of FULL");
        GlassWires g = eightKinds();
        Check.keepsEach(g, "rod(.., 5)", OUTSIDE, length -> g.rod(length, 5), 0, 100, LOW, TOP);
        Check.keepsEach(g, "rod(5, ..)", OUTSIDE, many -> g.rod(5, many), -1, 21, LOW, TOP);
    }

    private static void cutWhereRodsDoNotDo() {
        Check.of("41 NONE: RODS do not do");
        GlassWires g = wires(3);
        cutIs(g, "no rods", NONE, NONE);
        g.rod(2, 20);
        cutIs(g, "too short ones", NONE, NONE);
        g.rod(3, 0);
        cutIs(g, "none of the right ones", NONE, NONE);
        g.rod(3, 1);
        cutIs(g, "just one", 1, 0);
        Check.draw(g, 0, 0, "rlr");
        cutIs(g, "one too few", NONE, NONE);
    }

    private static void cutOfNoWires() {
        Check.of("41 CUT, where no WIRE is laid");
        GlassWires g = new GlassWires();
        cutIs(g, "no wires, no rods", 0, 0);
        g.rod(5, 5);
        cutIs(g, "no wires", 0, 0);
    }

    private static void cutOfWhatIsNot() {
        Check.of("41 cut: OUTSIDE");
        GlassWires g = wires(3);
        Check.keepsEach(g, "cut", OUTSIDE, g::cut, -1, 2, LOW, TOP);
        g.rod(3, 1);
        Check.keepsEach(g, "cut, where rods do", OUTSIDE, g::cut, -1, 2, LOW, TOP);
    }

    private static void cutOfMoreThanEight() {
        Check.of("41 STATE: more than 8 WIRES are laid");
        GlassWires g = new GlassWires();
        g.rod(1, 20);
        for (int wire = 0; wire < 30; wire++) {
            Check.draw(g, 0, 0, "r");
            int rods = wire < 8 ? wire + 1 : STATE;
            Check.due(wire + 1 + " wires: cut(0)", g.cut(0), rods);
            Check.due(wire + 1 + " wires: cut(1)", g.cut(1), wire < 8 ? 0 : STATE);
        }
        for (int wire = 0; wire < 21; wire++) {
            g.lay(wire, false);
        }
        cutIs(g, "nine are laid", STATE, STATE);
        g.lay(21, false);
        cutIs(g, "eight are laid", 8, 0);
    }

    private static void cutRefusedInOrder() {
        Check.of("41 OUTSIDE, then STATE, and NONE behind them");
        GlassWires g = wires(1, 1, 1, 1, 1, 1, 1, 1, 1);
        Check.keepsEach(g, "cut", OUTSIDE, g::cut, -1, 2, LOW, TOP);
        cutIs(g, "nine wires, no rods", STATE, STATE);
        g.lay(8, false);
        cutIs(g, "eight wires, no rods", NONE, NONE);
    }

    // ---- promises 42, 43

    private static void countOfWhatIsNot() {
        Check.of("42 count: OUTSIDE");
        GlassWires g = new GlassWires();
        Check.keepsEach(g, "count", OUTSIDE, g::count, -1, 6, LOW, TOP);
    }

    private static void countOfNoneAndOfAll() {
        Check.of("42 How many: the fewest and the most");
        countsAre(Check.plateOf(2, 2), 4, 0, 0, 0, 0, 0);
        countsAre(greatest(), 64, 30, 15, 40, 8, 768);
    }

    private static void countsAre(GlassWires g, int... answers) {
        for (int what = 0; what < answers.length; what++) {
            Check.due("count(" + what + ")", g.count(what), answers[what]);
        }
    }

    private static void digestOfAnEmptyPlate() {
        Check.of("43 h is 233, then for each of these numbers: none of WIRES, LAYERS, RODS, letters");
        Check.due("the least plate", Check.plateOf(2, 2).digest(), WiresTest.newDigest(2, 2));
        Check.due("the greatest plate", Check.plateOf(8, 8).digest(), WiresTest.newDigest(8, 8));
        Check.due("wide", Check.plateOf(8, 2).digest(), WiresTest.newDigest(8, 2));
        Check.due("narrow", Check.plateOf(2, 8).digest(), WiresTest.newDigest(2, 8));
    }

    /** One call each: the numbers that change, and where they stand. */
    private static void digestOfTheLeastOfEach() {
        Check.of("43 in order: one of each");
        GlassWires g = new GlassWires();
        Check.draw(g, 4, 4, "d");
        Check.write(g, "A");
        g.rod(99, 0);
        List<Integer> numbers = new ArrayList<>(List.of(4, 4, 1, 0, 44, 34));
        addColours(numbers, 700, 3, 10, 0);
        numbers.addAll(List.of(20, 20, 50, 0, 0, 0, 99, 0, 65));
        Check.due("a wire, a kind of rods, a letter", g.digest(), mixed(numbers));
        g.lay(0, false);
        g.solder(0, true);
        numbers.set(2, 0);
        numbers.set(3, 1);
        Check.due("lifted and soldered", g.digest(), mixed(numbers));
    }

    private static void digestOfLayersByFields() {
        Check.of("43 of each FIELD by number of its LAYERS from below COLOUR, THICK, 0 to 2");
        GlassWires g = Check.gridOf(2, 2);
        g.fill(3, 6, 50);
        g.fill(1, 5, 10);
        g.fire(700);
        g.fill(1, 4, 3);
        g.fire(751);
        g.fill(1, 3, 4);
        List<Integer> numbers = new ArrayList<>(List.of(2, 2, 1, 0, 1, 11, 21, 1, 0, 10, 11, 12));
        addColours(numbers, 700, 3, 10, 0);
        numbers.addAll(List.of(20, 20, 50));
        numbers.addAll(List.of(5, 7, 2, 4, 3, 2, 3, 4, 0, 6, 20, 2));
        numbers.addAll(List.of(0, 0, 2));
        Check.due("none in 0 and 2, three in 1, one in 3", g.digest(), mixed(numbers));
    }

    private static void addColours(List<Integer> numbers, int heat, int shrink, int pull, int foes) {
        for (int colour = 0; colour < 8; colour++) {
            numbers.addAll(List.of(heat, shrink, pull));
        }
        for (int two = 0; two < 28; two++) {
            numbers.add(foes);
        }
    }

    /** The most of everything: each second wire lifted and soldered. */
    private static GlassWires greatest() {
        GlassWires g = Check.plateOf(8, 8);
        for (int wire = 0; wire < 30; wire++) {
            Check.draw(g, 7, 8, Check.TO_AND_FRO.substring(0, 24));
            g.lay(wire, wire % 2 == 0);
            g.solder(wire, wire % 2 != 0);
        }
        for (int a = 0; a < 8; a++) {
            g.colour(a, 0, 900);
            g.colour(a, 1, 9);
            g.colour(a, 2, 99);
            for (int b = 0; b < a; b++) {
                g.foes(a, b, true);
            }
        }
        g.rule(0, 99);
        g.rule(1, 99);
        g.rule(2, 999);
        for (int layer = 0; layer < 12; layer++) {
            g.fill(0, 7, 99);
        }
        g.fire(1);
        g.back(7, 99);
        for (int kind = 0; kind < 8; kind++) {
            g.rod(99, 20);
        }
        Check.write(g, "~".repeat(40));
        return g;
    }

    private static void digestWraps() {
        Check.of("43 31 times h, and it (as longs, wrapping): the most of everything");
        List<Integer> numbers = new ArrayList<>(List.of(8, 8));
        for (int wire = 0; wire < 30; wire++) {
            numbers.addAll(List.of(1 - wire % 2, wire % 2));
            for (int point = 0; point <= 24; point++) {
                numbers.add(87 + point % 2);
            }
        }
        addColours(numbers, 900, 9, 99, 1);
        numbers.addAll(List.of(99, 99, 999));
        for (int layer = 0; layer < 768; layer++) {
            numbers.addAll(List.of(7, 99, 0));
        }
        numbers.addAll(List.of(7, 99, 1));
        for (int kind = 0; kind < 8; kind++) {
            numbers.addAll(List.of(99, 20));
        }
        for (int letter = 0; letter < 40; letter++) {
            numbers.add(126);
        }
        GlassWires g = greatest();
        Check.due("digest()", g.digest(), mixed(numbers));
        Check.due("again the same", g.digest(), mixed(numbers));
    }

    /** Without wrapping as it goes: the low 64 bits of the whole number. */
    private static long mixed(List<Integer> numbers) {
        BigInteger h = BigInteger.valueOf(233);
        for (int number : numbers) {
            h = h.multiply(BigInteger.valueOf(31)).add(BigInteger.valueOf(number));
        }
        return h.longValue();
    }
}
