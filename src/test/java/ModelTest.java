import java.util.Random;

/** Runs of calls by chance (always the same ones), each answer compared with the model's. */
public final class ModelTest {
    private static final int RUNS = 700, CALLS_OF_ALL = 43;
    /** What an object answers behind its 512th call is free; one turn asks for some 40 at most. */
    private static final int MOST_CALLS = 512 - 50;
    private static final int[] EXTREMES = {Integer.MIN_VALUE, Integer.MAX_VALUE, -1, 64, 1000, 10000};

    private final Random chance;
    private final int wild;
    private final boolean wide;
    private final GlassWires g = new GlassWires();
    private final Model m = new Model();
    private int calls = 0;

    private ModelTest(int seed) {
        chance = new Random(seed);
        wild = seed % 4 == 0 ? 6 : 40;
        wide = seed % 25 == 1;
    }

    public static void main(String[] args) {
        for (int seed = 0; seed < RUNS && Check.wrong() == 0; seed++) {
            Check.of("seed " + seed);
            new ModelTest(seed).run();
        }
        Check.end();
    }

    private void run() {
        int w = wide ? 8 : 2 + chance.nextInt(5), h = wide ? 8 : 2 + chance.nextInt(4);
        same("plate(" + w + ", " + h + ")", g.plate(w, h), m.plate(w, h));
        while (calls < MOST_CALLS && Check.wrong() == 0) {
            if (chance.nextInt(3) == 0) {
                build();
            } else {
                call(chance.nextInt(CALLS_OF_ALL));
            }
            same("digest()", g.digest(), m.digest());
        }
    }

    private void same(String call, long got, long want) {
        calls++;
        Check.due(call, got, want);
    }

    /** A number in a range, now and then just beside it or far away. */
    private int pick(int least, int most) {
        if (chance.nextInt(wild) == 0) {
            int[] beside = {least - 1, most + 1, EXTREMES[chance.nextInt(EXTREMES.length)]};
            return beside[chance.nextInt(3)];
        }
        return least + chance.nextInt(most - least + 1);
    }

    private int aCell() {
        if (chance.nextInt(wild) == 0) {
            return pick(0, 63);
        }
        int cell = m.cell(chance.nextInt(8), chance.nextInt(8));
        return cell >= 0 ? cell : m.cell(chance.nextInt(2), chance.nextInt(2));
    }

    /** What makes later answers worth asking for: wires that are good, glass, firings, rods. */
    private void build() {
        int what = chance.nextInt(10);
        if (what < 4 && m.count(1) < (wide ? 40 : 12)) {
            drawWire();
        } else if (what < 7) {
            int cell = aCell(), colour = chance.nextInt(8), v = 1 + chance.nextInt(25);
            same("fill(" + cell + ", " + colour + ", " + v + ")", g.fill(cell, colour, v), m.fill(cell, colour, v));
        } else if (what < 8) {
            int colour = chance.nextInt(8), v = 500 + chance.nextInt(250);
            same("colour(" + colour + ", 0, " + v + ")", g.colour(colour, 0, v), m.colour(colour, 0, v));
        } else {
            int t = 500 + chance.nextInt(300);
            same("fire(" + t + ")", g.fire(t), m.fire(t));
        }
    }

    private void drawWire() {
        same("blank()", g.blank(), m.blank());
        int x = chance.nextInt(wide ? 9 : 6), y = chance.nextInt(wide ? 9 : 6);
        StringBuilder moves = new StringBuilder();
        int length = 1 + chance.nextInt(chance.nextInt(8) == 0 ? 26 : 8);
        for (int tries = 0; moves.length() < length && tries < 200; tries++) {
            char move = moves.length() > 0 && chance.nextInt(3) > 0
                    ? moves.charAt(moves.length() - 1) : "rlud".charAt(chance.nextInt(4));
            moves.append(move);
            m.blank();
            writeModel(moves.toString());
            int good = m.good(x, y);
            if (good < moves.length() && good < 24 && good >= 0) {
                moves.setLength(moves.length() - 1);
            }
        }
        m.blank();
        writeModel(moves.toString());
        Check.write(g, moves.toString());
        calls += 1 + (moves.length() + 7) / 8;
        same("wire(" + x + ", " + y + ") of " + moves, g.wire(x, y), m.wire(x, y));
    }

    private void writeModel(String letters) {
        for (int i = 0; i < letters.length(); i += 8) {
            m.letters(Check.packed(letters.substring(i, Math.min(letters.length(), i + 8))));
        }
    }

    private void call(int which) {
        if (which < 16) {
            callWires(which);
        } else if (which < 29) {
            callGlass(which);
        } else if (which < 38) {
            callPull(which);
        } else {
            callRest(which);
        }
    }

    private void callWires(int which) {
        int x = pick(0, 6), y = pick(0, 5), wire = pick(0, Math.max(0, m.count(1) - 1)), i = pick(0, 5);
        boolean is = chance.nextBoolean();
        switch (which) {
            case 0: rarePlate(); break;
            case 1: someLetters(); break;
            case 2: same("blank()", g.blank(), m.blank()); break;
            case 3: same("good(" + x + ", " + y + ")", g.good(x, y), m.good(x, y)); break;
            case 4: same("wire(" + x + ", " + y + ")", g.wire(x, y), m.wire(x, y)); break;
            case 5: same("lay(" + wire + ", " + is + ")", g.lay(wire, is), m.lay(wire, is)); break;
            case 6: same("solder(" + wire + ", " + is + ")", g.solder(wire, is), m.solder(wire, is)); break;
            case 7: same("about(" + wire + ", " + i + ")", g.about(wire, i), m.about(wire, i)); break;
            case 8: same("point(" + wire + ", " + i + ")", g.point(wire, i), m.point(wire, i)); break;
            case 9: same("covers(" + x + ", " + y + ", " + i % 3 + ")", g.covers(x, y, i % 3), m.covers(x, y, i % 3)); break;
            case 10: allMany(); break;
            case 11: same("end(" + i % 2 + ", " + y + ")", g.end(i % 2, y), m.end(i % 2, y)); break;
            case 12: same("cell(" + x + ", " + y + ")", g.cell(x, y), m.cell(x, y)); break;
            case 13: someSize(); break;
            case 14: same("paints()", g.paints(), m.paints()); break;
            default: somePaint(); break;
        }
    }

    private void rarePlate() {
        int w = pick(2, 8), h = pick(2, 8);
        if (chance.nextInt(6) == 0) {
            same("plate(" + w + ", " + h + ")", g.plate(w, h), m.plate(w, h));
        }
    }

    private void someLetters() {
        long[] sorts = {Check.packed("ruld"), 'r', 127, 0, chance.nextLong(), Check.packed("uurrdd"), 0x610061L};
        long v = sorts[chance.nextInt(sorts.length)];
        same("letters(" + v + ")", g.letters(v), m.letters(v));
    }

    private void allMany() {
        for (int what = -1; what <= 8; what++) {
            same("many(" + what + ")", g.many(what), m.many(what));
        }
        int far = pick(0, 7);
        same("many(" + far + ")", g.many(far), m.many(far));
    }

    private void someSize() {
        int cell = aCell();
        same("size(" + cell + ")", g.size(cell), m.size(cell));
    }

    private void somePaint() {
        int cell = aCell();
        same("paint(" + cell + ")", g.paint(cell), m.paint(cell));
    }

    private void callGlass(int which) {
        int x = pick(0, 5), y = pick(0, 5), a = pick(0, 7), b = pick(0, 7), what = pick(0, 2), t = pick(1, 999);
        boolean is = chance.nextInt(3) > 0;
        switch (which) {
            case 16: someColour(a, what); break;
            case 17: same("foes(" + a + ", " + b + ", " + is + ")", g.foes(a, b, is), m.foes(a, b, is)); break;
            case 18: someRule(what); break;
            case 19: someFill(a); break;
            case 20: rareEmpty(); break;
            case 21: same("field(" + x + ", " + y + ", " + what + ")", g.field(x, y, what), m.field(x, y, what)); break;
            case 22: same("layer(" + x + ", " + y + ", " + b + ", " + what + ")",
                    g.layer(x, y, b, what), m.layer(x, y, b, what)); break;
            case 23: same("fire(" + t + ")", g.fire(t), m.fire(t)); break;
            case 24: same("polish()", g.polish(), m.polish()); break;
            case 25: same("state(" + a + ")", g.state(a), m.state(a)); break;
            case 26: same("fills(" + a + ")", g.fills(a), m.fills(a)); break;
            case 27: somePlan(); break;
            default: same("state(4)", g.state(4), m.state(4)); break;
        }
    }

    private void someColour(int colour, int what) {
        int v = what == 0 ? pick(1, 900) : what == 1 ? pick(0, 9) : pick(0, 99);
        same("colour(" + colour + ", " + what + ", " + v + ")", g.colour(colour, what, v), m.colour(colour, what, v));
    }

    private void someRule(int which) {
        int v = which == 0 ? pick(1, 40) : which == 1 ? pick(1, 99) : pick(1, chance.nextBoolean() ? 20 : 999);
        same("rule(" + which + ", " + v + ")", g.rule(which, v), m.rule(which, v));
    }

    private void someFill(int colour) {
        int cell = aCell(), v = pick(1, 99);
        same("fill(" + cell + ", " + colour + ", " + v + ")", g.fill(cell, colour, v), m.fill(cell, colour, v));
    }

    private void rareEmpty() {
        int cell = aCell();
        if (chance.nextInt(3) == 0) {
            same("empty(" + cell + ")", g.empty(cell), m.empty(cell));
        }
    }

    private void somePlan() {
        int colours = pick(0, 255);
        same("plan(" + colours + ")", g.plan(colours), m.plan(colours));
        for (int i = -1; i <= 30; i++) {
            same("heat(" + colours + ", " + i + ")", g.heat(colours, i), m.heat(colours, i));
        }
    }

    private void callPull(int which) {
        int colour = pick(0, 7), side = pick(0, 1), a = pick(0, 999), b = pick(0, 999), i = pick(0, 9), cell = aCell();
        int thick = pick(0, chance.nextBoolean() ? 10 : 99);
        switch (which) {
            case 29: same("back(" + colour + ", " + thick + ")", g.back(colour, thick), m.back(colour, thick)); break;
            case 30: same("pull(" + side + ")", g.pull(side), m.pull(side)); break;
            case 31: same("bow(" + side + ")", g.bow(side), m.bow(side)); break;
            case 32: same("straight(" + colour + ")", g.straight(colour), m.straight(colour)); break;
            case 33: same("strain(" + a + ", " + b + ")", g.strain(a, b), m.strain(a, b)); break;
            case 34: same("cooling(" + a + ")", g.cooling(a), m.cooling(a)); break;
            case 35: same("cool(" + a + ", " + i + ")", g.cool(a, i), m.cool(a, i)); break;
            case 36: same("harms(" + cell + ", " + a + ")", g.harms(cell, a), m.harms(cell, a)); break;
            default: same("safe(" + cell + ", " + colour + ", " + side + ")",
                    g.safe(cell, colour, side), m.safe(cell, colour, side)); break;
        }
    }

    private void callRest(int which) {
        int length = pick(1, 30), number = pick(0, 4), what = pick(0, 5);
        switch (which) {
            case 38: same("rod(" + length + ", " + number + ")", g.rod(length, number), m.rod(length, number)); break;
            case 39: someCut(); break;
            case 40: same("count(" + what + ")", g.count(what), m.count(what)); break;
            case 41: liftMany(); break;
            default: allEnds(); break;
        }
    }

    /** The model tries all ways to cut: not where these are too many. */
    private void someCut() {
        int what = pick(0, 1);
        int laid = m.count(2), kinds = m.count(4);
        if (laid <= 5 || laid > 8 || kinds <= 2 || (laid <= 7 && kinds <= 4)) {
            same("cut(" + what + ")", g.cut(what), m.cut(what));
        }
    }

    private void liftMany() {
        for (int wire = 0; wire < m.count(1); wire++) {
            boolean is = chance.nextBoolean();
            same("lay(" + wire + ", " + is + ")", g.lay(wire, is), m.lay(wire, is));
        }
    }

    private void allEnds() {
        for (int sort = 0; sort < 2; sort++) {
            for (int i = -1; i < 12; i++) {
                same("end(" + sort + ", " + i + ")", g.end(sort, i), m.end(sort, i));
            }
        }
    }
}
