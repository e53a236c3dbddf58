import java.util.ArrayList;
import java.util.Arrays;
import java.util.Comparator;
import java.util.List;
import java.util.Random;

/**
 * Where the document says fewest, least, greatest or as long as may be: held against searches that
 * try all ways, or against what the other calls of the object itself answer, and not against the
 * document's own short ways.
 */
public final class FewestTest {
    private static final int NONE = GlassWires.NONE;
    /** An object is good for 512 calls. */
    private static final int MOST_CALLS = 500;

    public static void main(String[] args) {
        pieces(2, 2);
        pieces(3, 2);
        fills();
        plans();
        straight();
        cooling();
        safe();
        harmsAsAFiring();
        cuts();
        Check.end();
    }

    // ---- 12 many: PIECES

    /** Each set of edges of a small plate, one wire to an edge: the fewest trails that cover it. */
    private static void pieces(int w, int h) {
        Check.of("12 many, PIECES on a plate of " + w + " by " + h);
        int[][] edges = edgesOf(w, h);
        int[] fewest = fewestTrails(edges, (w + 1) * (h + 1), w + 1);
        GlassWires g = null;
        int calls = MOST_CALLS;
        for (int set = 0; set < fewest.length; set++) {
            int gray = set ^ set >> 1;
            if (calls >= MOST_CALLS) {
                g = wiresOnAll(w, h, edges, gray);
                calls = 6 * edges.length;
            } else {
                int changed = Integer.numberOfTrailingZeros(set);
                g.lay(changed, (gray >> changed & 1) == 1);
            }
            Check.due("edges " + Integer.toBinaryString(gray), g.many(5), fewest[gray]);
            calls += 2;
        }
    }

    private static int[][] edgesOf(int w, int h) {
        List<int[]> edges = new ArrayList<>();
        for (int y = 0; y <= h; y++) {
            for (int x = 0; x <= w; x++) {
                if (x < w) {
                    edges.add(new int[] {x, y, 0});
                }
                if (y < h) {
                    edges.add(new int[] {x, y, 1});
                }
            }
        }
        return edges.toArray(new int[0][]);
    }

    private static GlassWires wiresOnAll(int w, int h, int[][] edges, int set) {
        GlassWires g = Check.plateOf(w, h);
        for (int i = 0; i < edges.length; i++) {
            Check.draw(g, edges[i][0], edges[i][1], edges[i][2] == 0 ? "r" : "u");
            g.lay(i, (set >> i & 1) == 1);
        }
        return g;
    }

    /** For each set of edges: with how few rows of edges, each going on from the one ahead. */
    private static int[] fewestTrails(int[][] edges, int points, int row) {
        boolean[] isTrail = trails(edges, points, row);
        int[] fewest = new int[isTrail.length];
        for (int set = 1; set < fewest.length; set++) {
            int first = Integer.lowestOneBit(set);
            int rest = set ^ first;
            int best = Integer.MAX_VALUE;
            for (int part = rest; ; part = part - 1 & rest) {
                if (isTrail[part | first]) {
                    best = Math.min(best, 1 + fewest[rest ^ part]);
                }
                if (part == 0) {
                    break;
                }
            }
            fewest[set] = best;
        }
        return fewest;
    }

    /** Whether a set of edges can be gone along in one row: by the points where such a row may end. */
    private static boolean[] trails(int[][] edges, int points, int row) {
        boolean[] isTrail = new boolean[1 << edges.length];
        int[] endsAt = new int[1 << edges.length];
        endsAt[0] = (1 << points) - 1;
        for (int set = 0; set < endsAt.length; set++) {
            isTrail[set] = set != 0 && endsAt[set] != 0;
            for (int i = 0; i < edges.length; i++) {
                int a = row * edges[i][1] + edges[i][0];
                int b = edges[i][2] == 0 ? a + 1 : a + row;
                if ((set >> i & 1) == 0) {
                    endsAt[set | 1 << i] |= (endsAt[set] >> a & 1) << b | (endsAt[set] >> b & 1) << a;
                }
            }
        }
        return isTrail;
    }

    // ---- 28 fills

    /** One real fill and firing: what lacks then is as much as a lower WALL lacks from the start. */
    private static void fills() {
        Check.of("28 fills, by filling and firing");
        for (int shrink = 0; shrink <= 9; shrink++) {
            for (int wall = 2; wall <= 99; wall++) {
                GlassWires g = Check.plateOf(2, 2);
                g.rule(0, wall);
                g.colour(3, 1, shrink);
                int times = g.fills(3);
                g.fill(0, 3, wall);
                g.fire(700);
                int lacks = wall - g.field(1, 1, 0);
                int more = 0;
                if (lacks > 1) {
                    g.rule(0, lacks);
                    more = g.fills(3);
                }
                Check.due("SHRINK " + shrink + ", WALL " + wall, times, 1 + more);
            }
        }
    }

    // ---- 29 plan, 30 heat

    private static void plans() {
        Random chance = new Random(29);
        for (int i = 0; i < 400; i++) {
            Check.of("29 plan, by trying all, " + i);
            GlassWires g = new GlassWires();
            g.rule(0, 2 + chance.nextInt(8));
            int spread = 1 + chance.nextInt(160);
            for (int colour = 0; colour < 4; colour++) {
                g.colour(colour, 0, 600 + chance.nextInt(spread));
                g.colour(colour, 1, chance.nextInt(8));
            }
            planIsFewest(g, 1 + chance.nextInt(15));
        }
    }

    private static void planIsFewest(GlassWires g, int colours) {
        int[] least = new int[Integer.bitCount(colours)];
        int[] needs = new int[least.length];
        int next = 0;
        for (int colour = 0; colour < 4; colour++) {
            if ((colours >> colour & 1) == 1) {
                least[next] = g.colour(colour, 0, 1);
                g.colour(colour, 0, least[next]);
                needs[next] = g.fills(colour);
                next++;
            }
        }
        int total = g.plan(colours);
        int[] left = needs.clone();
        for (int i = 0; i < total; i++) {
            int heat = g.heat(colours, i);
            Check.holds("heat " + i + " is not above the one ahead", i == 0 || heat <= g.heat(colours, i - 1));
            serve(least, left, heat);
        }
        Check.holds("the plan gives each as many as it has FILLS", isServed(left));
        Check.due("behind the last", g.heat(colours, total), NONE);
        Check.holds("one less does not do", !canServe(least, needs, 0, total - 1));
    }

    private static void serve(int[] least, int[] left, int heat) {
        for (int colour = 0; colour < least.length; colour++) {
            if (heat >= least[colour] && heat <= least[colour] + 50) {
                left[colour]--;
            }
        }
    }

    private static boolean isServed(int[] left) {
        for (int lacking : left) {
            if (lacking > 0) {
                return false;
            }
        }
        return true;
    }

    /** Heats at which the set of colours in reach changes are enough to try: each HEAT, each end of reach. */
    private static boolean canServe(int[] least, int[] left, int from, int firings) {
        if (isServed(left)) {
            return firings >= 0;
        }
        if (firings <= 0) {
            return false;
        }
        for (int sort = from; sort < 2 * least.length; sort++) {
            int[] then = left.clone();
            serve(least, then, least[sort / 2] + 50 * (sort % 2));
            if (canServe(least, then, sort, firings - 1)) {
                return true;
            }
        }
        return false;
    }

    // ---- 34 straight, 36 cooling, 37 cool

    /** Two cells of two colours, fired. */
    private static GlassWires pulled(Random chance) {
        GlassWires g = Check.plateOf(2 + chance.nextInt(3), 2 + chance.nextInt(3));
        Check.draw(g, 1, 0, "uu");
        g.rule(0, 99);
        for (int colour = 0; colour < 4; colour++) {
            g.colour(colour, 2, chance.nextInt(chance.nextBoolean() ? 100 : 5));
        }
        for (int i = 0; i < 3; i++) {
            g.fill(g.cell(chance.nextInt(2), 0), chance.nextInt(4), 1 + chance.nextInt(30));
        }
        g.fire(700);
        g.rule(2, 1 + chance.nextInt(60));
        return g;
    }

    private static void straight() {
        Random chance = new Random(34);
        for (int i = 0; i < 300; i++) {
            Check.of("34 straight, by all backs, " + i);
            GlassWires g = pulled(chance);
            int colour = chance.nextInt(4);
            int told = g.straight(colour);
            int best = 0;
            int least = Integer.MAX_VALUE;
            for (int thick = 0; thick <= 99; thick++) {
                g.back(colour, thick);
                int bow = Math.abs(g.bow(0));
                if (bow < least) {
                    best = thick;
                    least = bow;
                }
            }
            Check.due("straight(" + colour + ")", told, best);
        }
    }

    private static void cooling() {
        Random chance = new Random(36);
        for (int i = 0; i < 200; i++) {
            GlassWires g = pulled(chance);
            g.back(chance.nextInt(4), chance.nextInt(100));
            int bear = g.rule(2, 1);
            g.rule(2, bear);
            int[] fewest = fewestSteps(Math.abs(g.bow(0)), bear);
            for (int j = 0; j < 20; j++) {
                int a = chance.nextInt(1000);
                Check.of("36 cooling, by trying all, " + i + ", from " + a);
                Check.due("BOW " + g.bow(0) + ", BEAR " + bear, g.cooling(a), fewest[a]);
            }
            Check.of("37 cool, by STRAIN, " + i);
            stepsAreLong(g, 700 + chance.nextInt(300), bear);
        }
    }

    /** For each heat with how few steps it goes down to 0; NONE if it does not. */
    private static int[] fewestSteps(int bow, int bear) {
        int[] fewest = new int[1000];
        for (int a = 1; a < fewest.length; a++) {
            fewest[a] = NONE;
            for (int b = 0; b < a; b++) {
                boolean cracks = (a - b) * bow / 1000 > bear;
                if (!cracks && fewest[b] != NONE && (fewest[a] == NONE || fewest[b] + 1 < fewest[a])) {
                    fewest[a] = fewest[b] + 1;
                }
            }
        }
        return fewest;
    }

    private static void stepsAreLong(GlassWires g, int a, int bear) {
        int steps = Math.min(g.cooling(a), 60);
        for (int i = 1; i <= steps; i++) {
            int from = g.cool(a, i - 1);
            int to = g.cool(a, i);
            Check.holds("step " + i + " does not crack", g.strain(from, to) <= bear);
            Check.holds("step " + i + " is as long as may be", to == 0 || g.strain(from, to - 1) > bear);
        }
        if (steps >= 0 && steps < 60) {
            Check.due("the last is down", g.cool(a, steps), 0);
        }
        if (steps < 0) {
            Check.holds("each step cracks", g.strain(a, a - 1) > bear);
        }
    }

    // ---- 38 harms, 39 safe

    /** Six cells, each of one layer, some raw, some fired, some burnt. */
    private static GlassWires sixCells(Random chance) {
        GlassWires g = Check.gridOf(3, 2);
        g.rule(0, 99);
        for (int colour = 0; colour < 8; colour++) {
            g.colour(colour, 0, 600 + chance.nextInt(301));
        }
        for (int cell = 0; cell < 6; cell++) {
            if (chance.nextInt(5) > 0) {
                g.fill(cell, chance.nextInt(8), 1 + chance.nextInt(9));
            }
        }
        g.fire(700 + chance.nextInt(200));
        return g;
    }

    private static void safe() {
        Random chance = new Random(39);
        for (int i = 0; i < 300; i++) {
            GlassWires g = sixCells(chance);
            int cell = chance.nextInt(6), colour = chance.nextInt(8);
            Check.of("39 safe, by harms, " + i);
            int least = g.colour(colour, 0, 1);
            g.colour(colour, 0, least);
            int greatest = NONE;
            for (int t = least; t <= 999 && g.harms(cell, t) == 0; t++) {
                greatest = t;
            }
            Check.due("the least", g.safe(cell, colour, 0), greatest == NONE ? NONE : least);
            Check.due("the greatest", g.safe(cell, colour, 1), greatest);
        }
    }

    /** A firing of the whole plate burns just what a repair of the same heat harms. */
    private static void harmsAsAFiring() {
        Random chance = new Random(38);
        for (int i = 0; i < 300; i++) {
            Check.of("38 harms, by a firing, " + i);
            GlassWires g = sixCells(chance);
            int t = 600 + chance.nextInt(400);
            int[] told = new int[6], was = new int[6], burns = new int[6];
            for (int cell = 0; cell < 6; cell++) {
                told[cell] = g.harms(cell, t);
                was[cell] = g.layer(cell % 3, cell / 3, 0, 2);
            }
            g.fire(t);
            for (int cell = 0; cell < 6; cell++) {
                burns[cell] = was[cell] == 1 && g.layer(cell % 3, cell / 3, 0, 2) == 2 ? 1 : 0;
            }
            int all = Arrays.stream(burns).sum();
            for (int cell = 0; cell < 6; cell++) {
                Check.due("harms(" + cell + ", " + t + ")", told[cell], all - burns[cell]);
            }
        }
    }

    // ---- 41 cut

    private static void cuts() {
        Random chance = new Random(41);
        for (int i = 0; i < 300; i++) {
            Check.of("41 cut, by all sets of rods, " + i);
            GlassWires g = Check.plateOf(8, 8);
            int[] wires = new int[1 + chance.nextInt(8)];
            int longest = 2 + chance.nextInt(23);
            int shortest = chance.nextBoolean() ? 1 : longest / 2 + 1;
            for (int wire = 0; wire < wires.length; wire++) {
                wires[wire] = shortest + chance.nextInt(longest - shortest + 1);
                Check.draw(g, 0, wire, Check.TO_AND_FRO.substring(0, wires[wire]));
            }
            int[][] kinds = new int[1 + chance.nextInt(8)][];
            int most = 1 + chance.nextInt(3), longer = longest / (1 + chance.nextInt(3));
            for (int kind = 0; kind < kinds.length; kind++) {
                int length = chance.nextInt(4) == 0 ? 1 + chance.nextInt(longest) : longest + chance.nextInt(longer + 1);
                kinds[kind] = new int[] {length, chance.nextInt(most + 1)};
                g.rod(kinds[kind][0], kinds[kind][1]);
            }
            int[] best = fewestRods(wires, kinds);
            Check.due("FEWEST RODS", g.cut(0), best[0]);
            Check.due("WASTE", g.cut(1), best[1]);
        }
    }

    /** Sets of rods by number, then by length: the first of which the wires can be cut. */
    private static int[] fewestRods(int[] wires, int[][] kinds) {
        List<List<Integer>> sets = new ArrayList<>();
        sets.add(new ArrayList<>());
        for (int[] kind : kinds) {
            for (int i = sets.size() - 1; i >= 0; i--) {
                List<Integer> set = new ArrayList<>(sets.get(i));
                for (int rod = 0; rod < kind[1] && set.size() < wires.length; rod++) {
                    set.add(kind[0]);
                    sets.add(new ArrayList<>(set));
                }
            }
        }
        sets.sort(Comparator.comparingInt((List<Integer> set) -> set.size()).thenComparingInt(FewestTest::sum));
        int[] sorted = wires.clone();
        Arrays.sort(sorted);
        for (List<Integer> set : sets) {
            int[] left = set.stream().mapToInt(Integer::intValue).toArray();
            if (sum(set) >= Arrays.stream(wires).sum() && fits(sorted, sorted.length - 1, left)) {
                return new int[] {set.size(), sum(set) - Arrays.stream(wires).sum()};
            }
        }
        return new int[] {NONE, NONE};
    }

    private static int sum(List<Integer> lengths) {
        return lengths.stream().mapToInt(Integer::intValue).sum();
    }

    /** Whether each wire gets its length of one rod whole, the longest wire first. */
    private static boolean fits(int[] wires, int wire, int[] left) {
        if (wire < 0) {
            return true;
        }
        for (int rod = 0; rod < left.length; rod++) {
            if (left[rod] >= wires[wire]) {
                left[rod] -= wires[wire];
                boolean done = fits(wires, wire - 1, left);
                left[rod] += wires[wire];
                if (done) {
                    return true;
                }
            }
        }
        return false;
    }
}
