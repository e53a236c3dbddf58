import java.util.Arrays;

/**
 * Pictures of coloured glass melted into cells of bent wire, on a plate of fields.
 *
 * <p>Every row is made with the object and used again, so that no call makes anything new.
 */
public final class GlassWires {
    public static final int NONE = -1, UNKNOWN = -101, OUTSIDE = -102, STATE = -103, FULL = -104;

    /** A bow may well be -102, so its refusal is a number that no bow comes to. */
    private static final int BOW_OUTSIDE = -1000001;
    private static final int HOTTEST = 999;

    private final Grid grid;
    private final Page page;
    private final Wires wires;
    private final Net net;
    private final Cells cells;
    private final Painter painter;
    private final Palette palette;
    private final Glass glass;
    private final Plan plan;
    private final Tension tension;
    private final Rods rods;

    public GlassWires() {
        grid = new Grid();
        page = new Page();
        wires = new Wires();
        net = new Net(grid, wires);
        cells = new Cells(grid, net);
        painter = new Painter(grid, cells);
        palette = new Palette();
        glass = new Glass(grid, net, cells, palette);
        plan = new Plan(palette);
        tension = new Tension(grid, palette, glass);
        rods = new Rods();
        renew();
    }

    // ---- wires

    public int plate(int w, int h) {
        if (!Grid.allows(w) || !Grid.allows(h)) {
            return OUTSIDE;
        }
        grid.resize(w, h);
        wires.clear();
        glass.clear();
        tension.setBack(0, 0);
        rods.clear();
        renew();
        return grid.fields();
    }

    public int letters(long w) {
        return page.add(w);
    }

    public int blank() {
        return page.clear();
    }

    public int good(int x, int y) {
        return grid.hasPoint(x, y) ? page.goodMoves(grid, x, y) : UNKNOWN;
    }

    public int wire(int x, int y) {
        if (!grid.hasPoint(x, y)) {
            return UNKNOWN;
        }
        if (!page.isWire(grid, x, y)) {
            return STATE;
        }
        int number = wires.add(page, x, y);
        if (number >= 0) {
            page.clear();
            renew();
        }
        return number;
    }

    public int lay(int wire, boolean is) {
        if (!wires.has(wire)) {
            return UNKNOWN;
        }
        int was = bit(wires.isLaid(wire));
        wires.setLaid(wire, is);
        renew();
        return was;
    }

    public int solder(int wire, boolean is) {
        if (!wires.has(wire)) {
            return UNKNOWN;
        }
        int was = bit(wires.isSoldered(wire));
        wires.setSoldered(wire, is);
        renew();
        return was;
    }

    public int about(int wire, int what) {
        if (!wires.has(wire)) {
            return UNKNOWN;
        }
        switch (what) {
            case 0: return wires.movesOf(wire);
            case 1: return wires.bendsOf(wire);
            case 2: return bit(wires.stands(wire));
            case 3: return wires.edgesOf(wire);
            case 4: return bit(net.floats(wire));
            default: return OUTSIDE;
        }
    }

    public int point(int wire, int i) {
        if (!wires.has(wire)) {
            return UNKNOWN;
        }
        return i >= 0 && i <= wires.movesOf(wire) ? wires.pointAt(wire, i) : NONE;
    }

    public int covers(int x, int y, int side) {
        return grid.hasEdge(x, y, side) ? net.wiresOn(Grid.edgeNumber(x, y, side)) : UNKNOWN;
    }

    public int many(int what) {
        switch (what) {
            case 0: return net.places(Net.FREE_END);
            case 1: return net.places(Net.JOINT);
            case 2: return net.edgesUnder(2);
            case 3: return net.floating();
            case 4: return net.edgesUnder(1);
            case 5: return net.pieces();
            case 6: return cells.total();
            case 7: return cells.greatest();
            default: return OUTSIDE;
        }
    }

    public int end(int sort, int i) {
        return sort == Net.FREE_END || sort == Net.JOINT ? net.place(sort, i) : OUTSIDE;
    }

    public int cell(int x, int y) {
        return grid.hasField(x, y) ? cells.of(grid.fieldNumber(x, y)) : UNKNOWN;
    }

    public int size(int cell) {
        return cells.has(cell) ? cells.fieldsOf(cell) : UNKNOWN;
    }

    public int paints() {
        return cells.total() <= Painter.MOST ? painter.fewest() : STATE;
    }

    public int paint(int cell) {
        if (!cells.has(cell)) {
            return UNKNOWN;
        }
        return cells.total() <= Painter.MOST ? painter.firstPaint(cell) : STATE;
    }

    // ---- glass

    public int colour(int colour, int what, int v) {
        if (!Palette.has(colour) || !Palette.hasTrait(what)) {
            return UNKNOWN;
        }
        return palette.setTrait(colour, what, v);
    }

    public int foes(int a, int b, boolean is) {
        if (!Palette.has(a) || !Palette.has(b)) {
            return UNKNOWN;
        }
        if (a == b) {
            return OUTSIDE;
        }
        int were = bit(palette.areFoes(a, b));
        palette.setFoes(a, b, is);
        return were;
    }

    public int rule(int which, int v) {
        return Palette.hasRule(which) ? palette.setRule(which, v) : UNKNOWN;
    }

    public int fill(int cell, int colour, int v) {
        if (!cells.has(cell) || !Palette.has(colour)) {
            return UNKNOWN;
        }
        if (v < 1 || v > 99) {
            return OUTSIDE;
        }
        return glass.hasRoom(cell) ? glass.pour(cell, colour, v) : FULL;
    }

    public int empty(int cell) {
        return cells.has(cell) ? glass.takeOut(cell) : UNKNOWN;
    }

    public int field(int x, int y, int what) {
        if (!grid.hasField(x, y)) {
            return UNKNOWN;
        }
        int number = grid.fieldNumber(x, y);
        switch (what) {
            case 0: return glass.high(number);
            case 1: return glass.layersOn(number);
            default: return OUTSIDE;
        }
    }

    public int layer(int x, int y, int i, int what) {
        if (!grid.hasField(x, y)) {
            return UNKNOWN;
        }
        if (what < 0 || what > 2) {
            return OUTSIDE;
        }
        return glass.aboutLayer(grid.fieldNumber(x, y), i, what);
    }

    public int fire(int t) {
        return isFireHeat(t) ? glass.fireAt(t) : OUTSIDE;
    }

    public int polish() {
        return glass.polishAll();
    }

    public int state(int what) {
        switch (what) {
            case 0: return glass.layersThatAre(Glass.RAW);
            case 1: return glass.layersThatAre(Glass.FIRED);
            case 2: return glass.layersThatAre(Glass.BURNT);
            case 3: return glass.fieldsAtWall();
            case 4: return glass.bleedingEdges();
            case 5: return glass.firings();
            default: return OUTSIDE;
        }
    }

    public int fills(int colour) {
        return Palette.has(colour) ? palette.fillsOf(colour) : UNKNOWN;
    }

    public int plan(int colours) {
        if (!Plan.allows(colours)) {
            return OUTSIDE;
        }
        plan.make(colours);
        return plan.total();
    }

    public int heat(int colours, int i) {
        if (!Plan.allows(colours)) {
            return OUTSIDE;
        }
        plan.make(colours);
        return plan.heatAt(i);
    }

    // ---- the plate's pull

    public int back(int colour, int thick) {
        if (!Palette.has(colour)) {
            return UNKNOWN;
        }
        if (thick < 0 || thick > 99) {
            return OUTSIDE;
        }
        tension.setBack(colour, thick);
        return 1;
    }

    public int pull(int side) {
        switch (side) {
            case 0: return glass.frontPull();
            case 1: return tension.backPull();
            default: return OUTSIDE;
        }
    }

    public int bow(int what) {
        switch (what) {
            case 0: return tension.bowNow();
            case 1: return tension.bent();
            default: return BOW_OUTSIDE;
        }
    }

    public int straight(int colour) {
        return Palette.has(colour) ? tension.straightThick(colour) : UNKNOWN;
    }

    public int strain(int a, int b) {
        return isCoolHeat(a) && isCoolHeat(b) && b <= a ? tension.strainOf(a - b) : OUTSIDE;
    }

    public int cooling(int a) {
        return isCoolHeat(a) ? tension.coolingSteps(a) : OUTSIDE;
    }

    public int cool(int a, int i) {
        return isCoolHeat(a) ? tension.heatBehind(a, i) : OUTSIDE;
    }

    public int harms(int cell, int t) {
        if (!cells.has(cell)) {
            return UNKNOWN;
        }
        return isFireHeat(t) ? glass.harmedCells(cell, t) : OUTSIDE;
    }

    public int safe(int cell, int colour, int side) {
        if (!cells.has(cell) || !Palette.has(colour)) {
            return UNKNOWN;
        }
        if (side != 0 && side != 1) {
            return OUTSIDE;
        }
        int least = palette.heatOf(colour);
        int greatest = glass.harmlessHeat(cell);
        if (greatest < least) {
            return NONE;
        }
        return side == 0 ? least : greatest;
    }

    // ---- rods

    public int rod(int length, int many) {
        return rods.add(length, many);
    }

    public int cut(int what) {
        if (what != 0 && what != 1) {
            return OUTSIDE;
        }
        if (wires.laidOnes() > Rods.MOST_WIRES) {
            return STATE;
        }
        return what == 0 ? rods.fewest(wires) : rods.waste(wires);
    }

    // ---- what is told

    public int count(int what) {
        switch (what) {
            case 0: return grid.fields();
            case 1: return wires.total();
            case 2: return wires.laidOnes();
            case 3: return page.length();
            case 4: return rods.kinds();
            case 5: return glass.layersInAll();
            default: return OUTSIDE;
        }
    }

    public long digest() {
        long h = grid.digestOn(233);
        h = wires.digestOn(h);
        h = palette.digestOn(h);
        h = glass.digestLayersOn(h);
        h = tension.digestOn(h);
        h = mix(h, glass.firings());
        h = rods.digestOn(h);
        return page.digestOn(h);
    }

    /** What hangs on the laid wires is found once for each change of them, not for each question. */
    private void renew() {
        net.read();
        cells.find();
    }

    private static boolean isFireHeat(int t) {
        return t >= 1 && t <= HOTTEST;
    }

    private static boolean isCoolHeat(int t) {
        return t >= 0 && t <= HOTTEST;
    }

    private static int bit(boolean is) {
        return is ? 1 : 0;
    }

    private static long mix(long h, long number) {
        return 31 * h + number;
    }

    /**
     * The numbers of fields, points and edges. A point's number is the one that is told, 10 times
     * y and x; an edge's is that of its left or lower point, and those that go up come behind all
     * that go to the right.
     */
    private static final class Grid {
        static final int RIGHT = 0, UP = 1, LEFT = 2, DOWN = 3, WAYS = 4;
        static final int MOST_FIELDS = 64, POINTS = 89, EDGES = 2 * POINTS;
        private static final int LEAST = 2, MOST = 8, ROW = 10;

        private final int[] columns = new int[MOST_FIELDS];
        private final int[] rows = new int[MOST_FIELDS];
        private int wide;
        private int high;

        Grid() {
            resize(4, 4);
        }

        static boolean allows(int side) {
            return side >= LEAST && side <= MOST;
        }

        void resize(int w, int h) {
            wide = w;
            high = h;
            for (int y = 0; y < h && y < MOST; y++) {
                for (int x = 0; x < w && x < MOST; x++) {
                    columns[w * y + x] = x;
                    rows[w * y + x] = y;
                }
            }
        }

        int wide() {
            return wide;
        }

        int high() {
            return high;
        }

        int fields() {
            return wide * high;
        }

        boolean hasPoint(int x, int y) {
            return x >= 0 && x <= wide && y >= 0 && y <= high;
        }

        boolean isAtRim(int x, int y) {
            return x == 0 || x == wide || y == 0 || y == high;
        }

        boolean hasField(int x, int y) {
            return x >= 0 && x < wide && y >= 0 && y < high;
        }

        boolean hasEdge(int x, int y, int side) {
            if (side != RIGHT && side != UP) {
                return false;
            }
            return hasPoint(x, y) && hasPoint(x + stepRight(side), y + stepUp(side));
        }

        int fieldNumber(int x, int y) {
            return wide * y + x;
        }

        /** The field beside one, or NONE where the plate ends. */
        int beside(int field, int way) {
            int x = columns[field] + stepRight(way);
            int y = rows[field] + stepUp(way);
            return hasField(x, y) ? fieldNumber(x, y) : NONE;
        }

        /** The edge that is passed from a field to the one beside it. */
        int between(int field, int way) {
            int x = columns[field] + (way == RIGHT ? 1 : 0);
            int y = rows[field] + (way == UP ? 1 : 0);
            return edgeNumber(x, y, way == RIGHT || way == LEFT ? UP : RIGHT);
        }

        static int pointNumber(int x, int y) {
            return ROW * y + x;
        }

        static int columnOf(int point) {
            return point % ROW;
        }

        static int rowOf(int point) {
            return point / ROW;
        }

        static int edgeNumber(int x, int y, int side) {
            return POINTS * side + pointNumber(x, y);
        }

        /** The edge that a move from a point goes along. */
        static int edgeOfMove(int x, int y, int way) {
            switch (way) {
                case LEFT: return edgeNumber(x - 1, y, RIGHT);
                case DOWN: return edgeNumber(x, y - 1, UP);
                default: return edgeNumber(x, y, way);
            }
        }

        static int stepRight(int way) {
            return way == RIGHT ? 1 : way == LEFT ? -1 : 0;
        }

        static int stepUp(int way) {
            return way == UP ? 1 : way == DOWN ? -1 : 0;
        }

        long digestOn(long h) {
            return mix(mix(h, wide), high);
        }
    }

    /** Letters that wait to be read as the moves of a wire. */
    private static final class Page {
        private static final int MOST = 40, LETTERS_AT_ONCE = 8, LAST_CODE = 126;

        private final int[] codes = new int[MOST];
        private int length;

        int length() {
            return length;
        }

        int clear() {
            int had = length;
            length = 0;
            return had;
        }

        int add(long w) {
            int more = lettersIn(w);
            if (more == NONE) {
                return OUTSIDE;
            }
            if (length + more > MOST) {
                return FULL;
            }
            for (int i = 0; i < more; i++) {
                codes[length + i] = byteOf(w, i);
            }
            length += more;
            return length;
        }

        private static int lettersIn(long w) {
            int letters = 0;
            for (int i = 0; i < LETTERS_AT_ONCE; i++) {
                int code = byteOf(w, i);
                if (code > LAST_CODE || (code != 0 && letters < i)) {
                    return NONE;
                }
                if (code != 0) {
                    letters++;
                }
            }
            return letters;
        }

        private static int byteOf(long w, int i) {
            return (int) ((w >>> (8 * i)) & 255);
        }

        /** The way that a letter goes, or NONE if it is no move. */
        int wayAt(int i) {
            if (i < 0 || i >= length) {
                return NONE;
            }
            switch (codes[i]) {
                case 'r': return Grid.RIGHT;
                case 'u': return Grid.UP;
                case 'l': return Grid.LEFT;
                case 'd': return Grid.DOWN;
                default: return NONE;
            }
        }

        int goodMoves(Grid grid, int x, int y) {
            int atX = x;
            int atY = y;
            for (int i = 0; i < Wires.MOST_MOVES; i++) {
                int way = wayAt(i);
                atX += Grid.stepRight(way);
                atY += Grid.stepUp(way);
                if (way == NONE || !grid.hasPoint(atX, atY)) {
                    return i;
                }
            }
            return Wires.MOST_MOVES;
        }

        boolean isWire(Grid grid, int x, int y) {
            return length > 0 && goodMoves(grid, x, y) == length;
        }

        long digestOn(long h) {
            long told = h;
            for (int i = 0; i < length; i++) {
                told = mix(told, codes[i]);
            }
            return told;
        }
    }

    /** All wires, laid and lifted, with what does not change in them. */
    private static final class Wires {
        static final int MOST = 30, MOST_MOVES = 24;
        private static final int MOST_POINTS = MOST_MOVES + 1;

        private final boolean[] laid = new boolean[MOST];
        private final boolean[] soldered = new boolean[MOST];
        private final int[] moves = new int[MOST];
        private final int[] bends = new int[MOST];
        private final int[] edges = new int[MOST];
        private final int[] pointRow = new int[MOST * MOST_POINTS];
        private final int[] edgeRow = new int[MOST * MOST_MOVES];
        private int total;

        void clear() {
            total = 0;
        }

        int total() {
            return total;
        }

        boolean has(int wire) {
            return wire >= 0 && wire < total;
        }

        boolean isLaid(int wire) {
            return laid[wire];
        }

        void setLaid(int wire, boolean is) {
            laid[wire] = is;
        }

        boolean isSoldered(int wire) {
            return soldered[wire];
        }

        void setSoldered(int wire, boolean is) {
            soldered[wire] = is;
        }

        int movesOf(int wire) {
            return moves[wire];
        }

        int bendsOf(int wire) {
            return bends[wire];
        }

        int edgesOf(int wire) {
            return edges[wire];
        }

        /** A wire without a bend is straight and never comes back, so that bends alone decide. */
        boolean stands(int wire) {
            return bends[wire] > 0;
        }

        int pointAt(int wire, int i) {
            return pointRow[MOST_POINTS * wire + i];
        }

        /** The edge that the i-th move goes along. */
        int edgeAt(int wire, int i) {
            return edgeRow[MOST_MOVES * wire + i];
        }

        int laidOnes() {
            int ones = 0;
            for (int wire = 0; wire < total; wire++) {
                ones += bit(laid[wire]);
            }
            return ones;
        }

        /** The page holds good moves from this point: whoever calls has seen to that. */
        int add(Page page, int x, int y) {
            if (total >= MOST) {
                return FULL;
            }
            int wire = total;
            total++;
            laid[wire] = true;
            soldered[wire] = false;
            moves[wire] = Math.min(page.length(), MOST_MOVES);
            bends[wire] = 0;
            edges[wire] = 0;
            trace(wire, page, x, y);
            return wire;
        }

        private void trace(int wire, Page page, int x, int y) {
            int atX = x;
            int atY = y;
            pointRow[MOST_POINTS * wire] = Grid.pointNumber(x, y);
            for (int i = 0; i < moves[wire]; i++) {
                int way = page.wayAt(i);
                int edge = Grid.edgeOfMove(atX, atY, way);
                edges[wire] += bit(!wentAlong(wire, i, edge));
                bends[wire] += bit(i > 0 && way != page.wayAt(i - 1));
                edgeRow[MOST_MOVES * wire + i] = edge;
                atX += Grid.stepRight(way);
                atY += Grid.stepUp(way);
                pointRow[MOST_POINTS * wire + i + 1] = Grid.pointNumber(atX, atY);
            }
        }

        private boolean wentAlong(int wire, int movesDone, int edge) {
            for (int i = 0; i < movesDone; i++) {
                if (edgeAt(wire, i) == edge) {
                    return true;
                }
            }
            return false;
        }

        long digestOn(long h) {
            long told = h;
            for (int wire = 0; wire < total; wire++) {
                told = mix(mix(told, bit(laid[wire])), bit(soldered[wire]));
                for (int i = 0; i <= moves[wire]; i++) {
                    told = mix(told, pointAt(wire, i));
                }
            }
            return told;
        }
    }

    /** What the laid wires make together: covered edges, joints, free ends, wires that float. */
    private static final class Net {
        static final int FREE_END = 0, JOINT = 1;

        private final Grid grid;
        private final Wires wires;
        private final int[] covers = new int[Grid.EDGES];
        private final int[] solderedCovers = new int[Grid.EDGES];
        private final int[] comers = new int[Grid.POINTS];
        private final int[] lastOn = new int[Grid.EDGES];
        private final int[] lastAt = new int[Grid.POINTS];
        private final int[] held = new int[Wires.MOST];
        private final int[] heldPoints = new int[Grid.POINTS];
        private final int[] seen = new int[Grid.POINTS];
        private final int[] queue = new int[Grid.POINTS];

        Net(Grid grid, Wires wires) {
            this.grid = grid;
            this.wires = wires;
        }

        void read() {
            Arrays.fill(covers, 0);
            Arrays.fill(solderedCovers, 0);
            Arrays.fill(comers, 0);
            Arrays.fill(lastOn, NONE);
            Arrays.fill(lastAt, NONE);
            for (int wire = 0; wire < wires.total(); wire++) {
                if (wires.isLaid(wire)) {
                    put(wire);
                }
            }
            holdWires();
        }

        private void put(int wire) {
            comeTo(wire, wires.pointAt(wire, 0));
            for (int i = 0; i < wires.movesOf(wire); i++) {
                comeTo(wire, wires.pointAt(wire, i + 1));
                goAlong(wire, wires.edgeAt(wire, i));
            }
        }

        /** A wire that comes again counts once: the last that came is known. */
        private void comeTo(int wire, int point) {
            if (lastAt[point] != wire) {
                lastAt[point] = wire;
                comers[point]++;
            }
        }

        private void goAlong(int wire, int edge) {
            if (lastOn[edge] != wire) {
                lastOn[edge] = wire;
                covers[edge]++;
                solderedCovers[edge] += bit(wires.isSoldered(wire));
            }
        }

        /** Wires that stand hold those that they are joined to, and these hold others. */
        private void holdWires() {
            Arrays.fill(held, 0);
            Arrays.fill(heldPoints, 0);
            boolean more = true;
            for (int round = 0; more && round <= Wires.MOST; round++) {
                more = false;
                for (int wire = 0; wire < wires.total(); wire++) {
                    if (wires.isLaid(wire) && held[wire] == 0 && isHeldNow(wire)) {
                        hold(wire);
                        more = true;
                    }
                }
            }
        }

        private boolean isHeldNow(int wire) {
            if (wires.stands(wire)) {
                return true;
            }
            for (int i = 0; i <= wires.movesOf(wire); i++) {
                if (heldPoints[wires.pointAt(wire, i)] != 0) {
                    return true;
                }
            }
            return false;
        }

        private void hold(int wire) {
            held[wire] = 1;
            for (int i = 0; i <= wires.movesOf(wire); i++) {
                heldPoints[wires.pointAt(wire, i)] = 1;
            }
        }

        boolean floats(int wire) {
            return wires.isLaid(wire) && held[wire] == 0;
        }

        int floating() {
            int floating = 0;
            for (int wire = 0; wire < wires.total(); wire++) {
                floating += bit(floats(wire));
            }
            return floating;
        }

        int wiresOn(int edge) {
            return covers[edge];
        }

        boolean isOpen(int edge) {
            return covers[edge] == 0;
        }

        boolean isSoldered(int edge) {
            return solderedCovers[edge] > 0;
        }

        /** How many edges so many wires, or more, cover. */
        int edgesUnder(int least) {
            int edges = 0;
            for (int edge = 0; edge < Grid.EDGES; edge++) {
                edges += bit(covers[edge] >= least);
            }
            return edges;
        }

        int places(int sort) {
            int places = 0;
            for (int y = 0; y <= grid.high(); y++) {
                for (int x = 0; x <= grid.wide(); x++) {
                    places += bit(isPlace(sort, x, y));
                }
            }
            return places;
        }

        int place(int sort, int i) {
            int left = i;
            for (int y = 0; y <= grid.high(); y++) {
                for (int x = 0; x <= grid.wide(); x++) {
                    if (isPlace(sort, x, y)) {
                        if (left == 0) {
                            return Grid.pointNumber(x, y);
                        }
                        left--;
                    }
                }
            }
            return NONE;
        }

        private boolean isPlace(int sort, int x, int y) {
            if (sort == JOINT) {
                return comers[Grid.pointNumber(x, y)] >= 2;
            }
            return !grid.isAtRim(x, y) && edgesMeeting(x, y) == 1;
        }

        private int edgesMeeting(int x, int y) {
            int edges = 0;
            for (int way = 0; way < Grid.WAYS; way++) {
                edges += bit(isCovered(x, y, way));
            }
            return edges;
        }

        private boolean isCovered(int x, int y, int way) {
            return grid.hasPoint(x + Grid.stepRight(way), y + Grid.stepUp(way))
                    && covers[Grid.edgeOfMove(x, y, way)] > 0;
        }

        int pieces() {
            Arrays.fill(seen, 0);
            int pieces = 0;
            for (int y = 0; y <= grid.high(); y++) {
                for (int x = 0; x <= grid.wide(); x++) {
                    if (seen[Grid.pointNumber(x, y)] == 0 && edgesMeeting(x, y) > 0) {
                        pieces += Math.max(1, oddPoints(x, y) / 2);
                    }
                }
            }
            return pieces;
        }

        /** Points with an odd number of covered edges, among all that hang together with one. */
        private int oddPoints(int x, int y) {
            int odd = 0;
            queue[0] = Grid.pointNumber(x, y);
            seen[queue[0]] = 1;
            int waiting = 1;
            for (int i = 0; i < waiting && i < Grid.POINTS; i++) {
                int atX = Grid.columnOf(queue[i]);
                int atY = Grid.rowOf(queue[i]);
                odd += edgesMeeting(atX, atY) & 1;
                for (int way = 0; way < Grid.WAYS; way++) {
                    int next = Grid.pointNumber(atX + Grid.stepRight(way), atY + Grid.stepUp(way));
                    if (isCovered(atX, atY, way) && seen[next] == 0 && waiting < Grid.POINTS) {
                        seen[next] = 1;
                        queue[waiting] = next;
                        waiting++;
                    }
                }
            }
            return odd;
        }
    }

    /** Fields that are open to one another, one by one; a cell's number is its least field's. */
    private static final class Cells {
        private final Grid grid;
        private final Net net;
        private final int[] cellOf = new int[Grid.MOST_FIELDS];
        private final int[] sizes = new int[Grid.MOST_FIELDS];
        private final int[] queue = new int[Grid.MOST_FIELDS];
        private int total;

        Cells(Grid grid, Net net) {
            this.grid = grid;
            this.net = net;
        }

        void find() {
            Arrays.fill(cellOf, NONE);
            total = 0;
            for (int field = 0; field < grid.fields(); field++) {
                if (cellOf[field] == NONE) {
                    sizes[field] = spread(field);
                    total++;
                }
            }
        }

        /** The first field that is found is the least, since fields are gone through by number. */
        private int spread(int cell) {
            cellOf[cell] = cell;
            queue[0] = cell;
            int waiting = 1;
            for (int i = 0; i < waiting && i < Grid.MOST_FIELDS; i++) {
                for (int way = 0; way < Grid.WAYS; way++) {
                    int next = grid.beside(queue[i], way);
                    if (next != NONE && cellOf[next] == NONE && waiting < Grid.MOST_FIELDS
                            && net.isOpen(grid.between(queue[i], way))) {
                        cellOf[next] = cell;
                        queue[waiting] = next;
                        waiting++;
                    }
                }
            }
            return waiting;
        }

        int total() {
            return total;
        }

        int of(int field) {
            return cellOf[field];
        }

        boolean has(int cell) {
            return cell >= 0 && cell < Grid.MOST_FIELDS && cellOf[cell] == cell;
        }

        int fieldsOf(int cell) {
            return sizes[cell];
        }

        int greatest() {
            int greatest = 0;
            for (int cell = 0; cell < grid.fields(); cell++) {
                if (has(cell)) {
                    greatest = Math.max(greatest, sizes[cell]);
                }
            }
            return greatest;
        }
    }

    /** The fewest paints for ten cells at most, by trying. */
    private static final class Painter {
        static final int MOST = 10;

        private final Grid grid;
        private final Cells cells;
        private final int[] placeOf = new int[Grid.MOST_FIELDS];
        private final int[] near = new int[MOST];
        private final int[] paints = new int[MOST];

        Painter(Grid grid, Cells cells) {
            this.grid = grid;
            this.cells = cells;
        }

        int fewest() {
            findNear();
            int number = Math.min(cells.total(), MOST);
            for (int most = 1; most <= MOST; most++) {
                if (canPaint(near, paints, 0, number, most)) {
                    return most;
                }
            }
            return MOST;
        }

        int firstPaint(int cell) {
            fewest();
            return paints[placeOf[cell]];
        }

        /** Places are given by number, so that a search along them finds the first way first. */
        private void findNear() {
            Arrays.fill(near, 0);
            int next = 0;
            for (int cell = 0; cell < grid.fields(); cell++) {
                if (cells.has(cell) && next < MOST) {
                    placeOf[cell] = next;
                    next++;
                }
            }
            for (int field = 0; field < grid.fields(); field++) {
                for (int way = 0; way < Grid.WAYS; way++) {
                    int other = grid.beside(field, way);
                    if (other != NONE && cells.of(other) != cells.of(field)) {
                        near[placeOf[cells.of(field)]] |= 1 << placeOf[cells.of(other)];
                    }
                }
            }
        }

        private static boolean canPaint(int[] near, int[] paints, int place, int number, int most) {
            if (place >= number || place >= MOST) {
                return true;
            }
            for (int paint = 0; paint < most; paint++) {
                if (isFree(near[place], paints, place, paint)) {
                    paints[place] = paint;
                    if (canPaint(near, paints, place + 1, number, most)) {
                        return true;
                    }
                }
            }
            return false;
        }

        private static boolean isFree(int near, int[] paints, int place, int paint) {
            for (int earlier = 0; earlier < place; earlier++) {
                if (((near >> earlier) & 1) == 1 && paints[earlier] == paint) {
                    return false;
                }
            }
            return true;
        }
    }

    /** What colours are like, which are foes, and the rules WALL, STIFF and BEAR. */
    private static final class Palette {
        static final int COLOURS = 8, REACH = 50;
        private static final int HEAT = 0, SHRINK = 1, PULL = 2, TRAITS = 3;
        private static final int WALL = 0, STIFF = 1, BEAR = 2, RULES = 3;
        private static final int[] LEAST_TRAIT = {1, 0, 0};
        private static final int[] MOST_TRAIT = {900, 9, 99};
        private static final int[] FIRST_TRAIT = {700, 3, 10};
        private static final int[] MOST_RULE = {99, 99, 999};

        private final int[] traits = new int[COLOURS * TRAITS];
        private final int[] foes = new int[COLOURS];
        private final int[] rules = {20, 20, 50};

        Palette() {
            for (int colour = 0; colour < COLOURS; colour++) {
                for (int what = 0; what < TRAITS; what++) {
                    traits[TRAITS * colour + what] = FIRST_TRAIT[what];
                }
            }
        }

        static boolean has(int colour) {
            return colour >= 0 && colour < COLOURS;
        }

        static boolean hasTrait(int what) {
            return what >= 0 && what < TRAITS;
        }

        static boolean hasRule(int which) {
            return which >= 0 && which < RULES;
        }

        int setTrait(int colour, int what, int v) {
            if (v < LEAST_TRAIT[what] || v > MOST_TRAIT[what]) {
                return OUTSIDE;
            }
            int was = traits[TRAITS * colour + what];
            traits[TRAITS * colour + what] = v;
            return was;
        }

        int setRule(int which, int v) {
            if (v < 1 || v > MOST_RULE[which]) {
                return OUTSIDE;
            }
            int was = rules[which];
            rules[which] = v;
            return was;
        }

        int heatOf(int colour) {
            return traits[TRAITS * colour + HEAT];
        }

        /** The greatest heat that does not burn it. */
        int bearableHeat(int colour) {
            return heatOf(colour) + REACH;
        }

        int pullOf(int colour) {
            return traits[TRAITS * colour + PULL];
        }

        int shrunk(int colour, int thick) {
            return thick - thick * traits[TRAITS * colour + SHRINK] / 10;
        }

        int wall() {
            return rules[WALL];
        }

        int stiff() {
            return rules[STIFF];
        }

        int bear() {
            return rules[BEAR];
        }

        boolean areFoes(int a, int b) {
            return ((foes[a] >> b) & 1) == 1;
        }

        void setFoes(int a, int b, boolean is) {
            foes[a] = is ? foes[a] | (1 << b) : foes[a] & ~(1 << b);
            foes[b] = is ? foes[b] | (1 << a) : foes[b] & ~(1 << a);
        }

        /** Each fill leaves 1 at least, so that there are never more of them than WALL. */
        int fillsOf(int colour) {
            int high = 0;
            int fills = 0;
            while (high < wall() - 1 && fills < wall()) {
                high += shrunk(colour, wall() - high);
                fills++;
            }
            return fills;
        }

        long digestOn(long h) {
            long told = h;
            for (int i = 0; i < COLOURS * TRAITS; i++) {
                told = mix(told, traits[i]);
            }
            for (int a = 0; a < COLOURS; a++) {
                for (int b = a + 1; b < COLOURS; b++) {
                    told = mix(told, bit(areFoes(a, b)));
                }
            }
            for (int which = 0; which < RULES; which++) {
                told = mix(told, rules[which]);
            }
            return told;
        }
    }

    /** The layers on all fields, and the firings that they went through. */
    private static final class Glass {
        static final int RAW = 0, FIRED = 1, BURNT = 2;
        private static final int MOST_LAYERS = 12;

        private final Grid grid;
        private final Net net;
        private final Cells cells;
        private final Palette palette;
        private final int[] layers = new int[Grid.MOST_FIELDS];
        private final int[] colours = new int[Grid.MOST_FIELDS * MOST_LAYERS];
        private final int[] thicks = new int[Grid.MOST_FIELDS * MOST_LAYERS];
        private final int[] ripeness = new int[Grid.MOST_FIELDS * MOST_LAYERS];
        private final int[] highs = new int[Grid.MOST_FIELDS];
        private int firings;

        Glass(Grid grid, Net net, Cells cells, Palette palette) {
            this.grid = grid;
            this.net = net;
            this.cells = cells;
            this.palette = palette;
        }

        void clear() {
            Arrays.fill(layers, 0);
            firings = 0;
        }

        int firings() {
            return firings;
        }

        int layersOn(int field) {
            return layers[field];
        }

        int layersInAll() {
            int all = 0;
            for (int field = 0; field < grid.fields(); field++) {
                all += layers[field];
            }
            return all;
        }

        int high(int field) {
            int high = 0;
            for (int i = 0; i < layers[field]; i++) {
                high += thicks[MOST_LAYERS * field + i];
            }
            return high;
        }

        int aboutLayer(int field, int i, int what) {
            if (i < 0 || i >= layers[field]) {
                return NONE;
            }
            int at = MOST_LAYERS * field + i;
            switch (what) {
                case 0: return colours[at];
                case 1: return thicks[at];
                default: return ripeness[at];
            }
        }

        /** Where the upmost layer of a field is kept, or NONE. */
        private int upmost(int field) {
            return layers[field] > 0 ? MOST_LAYERS * field + layers[field] - 1 : NONE;
        }

        boolean hasRoom(int cell) {
            for (int field = 0; field < grid.fields(); field++) {
                if (cells.of(field) == cell && layers[field] >= MOST_LAYERS) {
                    return false;
                }
            }
            return true;
        }

        int pour(int cell, int colour, int thick) {
            int fields = 0;
            for (int field = 0; field < grid.fields(); field++) {
                if (cells.of(field) == cell && layers[field] < MOST_LAYERS) {
                    int at = MOST_LAYERS * field + layers[field];
                    colours[at] = colour;
                    thicks[at] = thick;
                    ripeness[at] = RAW;
                    layers[field]++;
                    fields++;
                }
            }
            return fields;
        }

        int takeOut(int cell) {
            int went = 0;
            for (int field = 0; field < grid.fields(); field++) {
                if (cells.of(field) == cell) {
                    went += layers[field];
                    layers[field] = 0;
                }
            }
            return went;
        }

        int fireAt(int t) {
            int fired = 0;
            for (int field = 0; field < grid.fields(); field++) {
                for (int i = 0; i < layers[field]; i++) {
                    fired += bit(ripen(MOST_LAYERS * field + i, t));
                    burn(MOST_LAYERS * field + i, t);
                }
            }
            runOver();
            firings++;
            return fired;
        }

        private boolean ripen(int at, int t) {
            if (ripeness[at] != RAW || palette.heatOf(colours[at]) > t) {
                return false;
            }
            ripeness[at] = FIRED;
            thicks[at] = palette.shrunk(colours[at], thicks[at]);
            return true;
        }

        private void burn(int at, int t) {
            if (ripeness[at] == FIRED && palette.bearableHeat(colours[at]) < t) {
                ripeness[at] = BURNT;
            }
        }

        /** Heights are kept first: what one field loses must not change another's case. */
        private void runOver() {
            for (int field = 0; field < grid.fields(); field++) {
                highs[field] = high(field);
            }
            for (int field = 0; field < grid.fields(); field++) {
                if (highs[field] > palette.wall() && canRunOver(field)) {
                    takeFromUpmost(field, highs[field] - palette.wall());
                }
            }
        }

        private boolean canRunOver(int field) {
            for (int way = 0; way < Grid.WAYS; way++) {
                int other = grid.beside(field, way);
                if (other != NONE && highs[other] < palette.wall()
                        && !net.isOpen(grid.between(field, way))) {
                    return true;
                }
            }
            return false;
        }

        /** Takes so much from the upmost layer alone, or all of it: how much went. */
        private int takeFromUpmost(int field, int much) {
            int at = upmost(field);
            if (at == NONE) {
                return 0;
            }
            int went = Math.min(much, thicks[at]);
            thicks[at] -= went;
            if (thicks[at] == 0) {
                layers[field]--;
            }
            return went;
        }

        int polishAll() {
            int went = 0;
            for (int field = 0; field < grid.fields(); field++) {
                int much = high(field) - palette.wall();
                for (int i = 0; much > 0 && i < MOST_LAYERS; i++) {
                    int taken = takeFromUpmost(field, much);
                    much -= taken;
                    went += taken;
                }
            }
            return went;
        }

        int layersThatAre(int ripe) {
            int number = 0;
            for (int field = 0; field < grid.fields(); field++) {
                for (int i = 0; i < layers[field]; i++) {
                    number += bit(ripeness[MOST_LAYERS * field + i] == ripe);
                }
            }
            return number;
        }

        int fieldsAtWall() {
            int fields = 0;
            for (int field = 0; field < grid.fields(); field++) {
                fields += bit(high(field) >= palette.wall());
            }
            return fields;
        }

        /** Only to the right and up, so that each edge is met once. */
        int bleedingEdges() {
            int edges = 0;
            for (int field = 0; field < grid.fields(); field++) {
                edges += bit(bleeds(field, Grid.RIGHT)) + bit(bleeds(field, Grid.UP));
            }
            return edges;
        }

        private boolean bleeds(int field, int way) {
            int other = grid.beside(field, way);
            if (other == NONE || upmost(field) == NONE || upmost(other) == NONE) {
                return false;
            }
            return palette.areFoes(colours[upmost(field)], colours[upmost(other)])
                    && !net.isSoldered(grid.between(field, way));
        }

        int frontPull() {
            int pull = 0;
            for (int field = 0; field < grid.fields(); field++) {
                for (int i = 0; i < layers[field]; i++) {
                    int at = MOST_LAYERS * field + i;
                    if (ripeness[at] != RAW) {
                        pull += thicks[at] * palette.pullOf(colours[at]);
                    }
                }
            }
            return pull;
        }

        int harmedCells(int flawed, int t) {
            int harmed = 0;
            for (int cell = 0; cell < grid.fields(); cell++) {
                if (cells.has(cell) && cell != flawed) {
                    harmed += bit(bearableHeat(cell) < t);
                }
            }
            return harmed;
        }

        /** The greatest heat at which a flaw's repair harms no other cell. */
        int harmlessHeat(int flawed) {
            int heat = HOTTEST;
            for (int cell = 0; cell < grid.fields(); cell++) {
                if (cells.has(cell) && cell != flawed) {
                    heat = Math.min(heat, bearableHeat(cell));
                }
            }
            return heat;
        }

        private int bearableHeat(int cell) {
            int heat = HOTTEST;
            for (int field = 0; field < grid.fields(); field++) {
                int at = upmost(field);
                if (cells.of(field) == cell && at != NONE && ripeness[at] == FIRED) {
                    heat = Math.min(heat, palette.bearableHeat(colours[at]));
                }
            }
            return heat;
        }

        long digestLayersOn(long h) {
            long told = h;
            for (int field = 0; field < grid.fields(); field++) {
                for (int i = 0; i < layers[field]; i++) {
                    int at = MOST_LAYERS * field + i;
                    told = mix(mix(mix(told, colours[at]), thicks[at]), ripeness[at]);
                }
            }
            return told;
        }
    }

    /** The fewest firings for some colours: heats that do not fall, each with how many times. */
    private static final class Plan {
        private static final int MOST_BITS = 255;

        private final Palette palette;
        private final int[] heats = new int[Palette.COLOURS];
        private final int[] times = new int[Palette.COLOURS];
        private int kinds;

        Plan(Palette palette) {
            this.palette = palette;
        }

        static boolean allows(int colours) {
            return colours >= 0 && colours <= MOST_BITS;
        }

        void make(int colours) {
            kinds = 0;
            int left = colours;
            for (int i = 0; i < Palette.COLOURS && left != 0; i++) {
                int colour = coolest(left);
                left &= ~(1 << colour);
                serve(palette.heatOf(colour), palette.fillsOf(colour));
            }
        }

        private int coolest(int colours) {
            int coolest = 0;
            int heat = HOTTEST;
            for (int colour = 0; colour < Palette.COLOURS; colour++) {
                if (((colours >> colour) & 1) == 1 && palette.heatOf(colour) < heat) {
                    coolest = colour;
                    heat = palette.heatOf(colour);
                }
            }
            return coolest;
        }

        /** Heats do not fall along the colours, so none that stands is above this one's reach. */
        private void serve(int heat, int needed) {
            int lacking = needed;
            for (int i = 0; i < kinds; i++) {
                if (heats[i] >= heat) {
                    lacking -= times[i];
                }
            }
            if (lacking > 0 && kinds < Palette.COLOURS) {
                heats[kinds] = heat + Palette.REACH;
                times[kinds] = lacking;
                kinds++;
            }
        }

        int total() {
            int total = 0;
            for (int i = 0; i < kinds; i++) {
                total += times[i];
            }
            return total;
        }

        /** The hottest stand last. */
        int heatAt(int i) {
            if (i < 0) {
                return NONE;
            }
            int left = i;
            for (int kind = kinds - 1; kind >= 0; kind--) {
                if (left < times[kind]) {
                    return heats[kind];
                }
                left -= times[kind];
            }
            return NONE;
        }
    }

    /** The back of the plate, and what the pull of both sides does to it. */
    private static final class Tension {
        private static final int MOST_THICK = 99;

        private final Grid grid;
        private final Palette palette;
        private final Glass glass;
        private int backColour;
        private int backThick;

        Tension(Grid grid, Palette palette, Glass glass) {
            this.grid = grid;
            this.palette = palette;
            this.glass = glass;
        }

        void setBack(int colour, int thick) {
            backColour = colour;
            backThick = thick;
        }

        int backPull() {
            return pullOfBack(backColour, backThick);
        }

        private int pullOfBack(int colour, int thick) {
            return grid.fields() * thick * palette.pullOf(colour);
        }

        int bowNow() {
            return bowBetween(glass.frontPull(), backPull());
        }

        private int bowBetween(int front, int back) {
            int fields = grid.fields();
            return fields > 0 ? (front - back) / fields : 0;
        }

        int bent() {
            int stiff = palette.stiff();
            return stiff > 0 ? bowNow() / stiff : 0;
        }

        int straightThick(int colour) {
            int front = glass.frontPull();
            int best = 0;
            int least = Math.abs(bowBetween(front, 0));
            for (int thick = 1; thick <= MOST_THICK; thick++) {
                int bow = Math.abs(bowBetween(front, pullOfBack(colour, thick)));
                if (bow < least) {
                    best = thick;
                    least = bow;
                }
            }
            return best;
        }

        int strainOf(int step) {
            return step * Math.abs(bowNow()) / 1000;
        }

        /** The longest step that does not crack; 0 if each does. */
        private int longestStep(int heat) {
            int bow = Math.abs(bowNow());
            if (bow == 0) {
                return heat;
            }
            return Math.min(heat, (1000 * (palette.bear() + 1) - 1) / bow);
        }

        int coolingSteps(int heat) {
            if (heat == 0) {
                return 0;
            }
            int step = longestStep(heat);
            return step > 0 ? (heat + step - 1) / step : NONE;
        }

        int heatBehind(int heat, int i) {
            if (i == 0) {
                return heat;
            }
            if (i < 0 || i > coolingSteps(heat)) {
                return NONE;
            }
            return Math.max(0, heat - i * longestStep(heat));
        }

        long digestOn(long h) {
            return mix(mix(h, backColour), backThick);
        }
    }

    /** Kinds of rods, and how wires are cut from them. */
    private static final class Rods {
        static final int MOST_WIRES = 8;
        private static final int MOST_KINDS = 8, MOST_LENGTH = 99, MOST_RODS = 20;
        private static final int SETS = 1 << MOST_WIRES;
        /** One rod more costs more than the lengths of all rods that eight wires can need. */
        private static final int ROD_COST = 1000;
        private static final int NEVER = ROD_COST * ROD_COST;

        private final int[] lengths = new int[MOST_KINDS];
        private final int[] numbers = new int[MOST_KINDS];
        private final int[] sums = new int[SETS];
        private final int[] costs = new int[SETS];
        private int kinds;

        void clear() {
            kinds = 0;
        }

        int kinds() {
            return kinds;
        }

        int add(int length, int number) {
            if (length < 1 || length > MOST_LENGTH || number < 0 || number > MOST_RODS) {
                return OUTSIDE;
            }
            if (kinds >= MOST_KINDS) {
                return FULL;
            }
            lengths[kinds] = length;
            numbers[kinds] = number;
            kinds++;
            return kinds - 1;
        }

        int fewest(Wires wires) {
            int cost = leastCost(wires);
            return cost < NEVER ? cost / ROD_COST : NONE;
        }

        int waste(Wires wires) {
            int cost = leastCost(wires);
            return cost < NEVER ? cost % ROD_COST - sums[setOfAll(wires)] : NONE;
        }

        private static int setOfAll(Wires wires) {
            return (1 << Math.min(wires.laidOnes(), MOST_WIRES)) - 1;
        }

        /** For each set of wires what its rods cost, as rods come to hand one by one. */
        private int leastCost(Wires wires) {
            int all = setOfAll(wires);
            addUpLengths(wires);
            Arrays.fill(costs, NEVER);
            costs[0] = 0;
            for (int kind = 0; kind < kinds; kind++) {
                int useful = Math.min(numbers[kind], MOST_WIRES);
                boolean helps = true;
                for (int rod = 0; helps && rod < useful; rod++) {
                    helps = useRod(lengths[kind], all);
                }
            }
            return costs[all];
        }

        private void addUpLengths(Wires wires) {
            int sets = 1;
            sums[0] = 0;
            for (int wire = 0; wire < wires.total(); wire++) {
                if (wires.isLaid(wire) && sets < SETS) {
                    for (int set = 0; set < sets; set++) {
                        sums[sets + set] = sums[set] + wires.movesOf(wire);
                    }
                    sets *= 2;
                }
            }
        }

        /** Sets go down, so that what is left of one does not know of this rod yet. */
        private boolean useRod(int length, int all) {
            boolean helps = false;
            for (int set = all; set > 0; set--) {
                for (int part = set; part > 0; part = (part - 1) & set) {
                    int cost = costs[set ^ part] + ROD_COST + length;
                    if (sums[part] <= length && cost < costs[set]) {
                        costs[set] = cost;
                        helps = true;
                    }
                }
            }
            return helps;
        }

        long digestOn(long h) {
            long told = h;
            for (int kind = 0; kind < kinds; kind++) {
                told = mix(mix(told, lengths[kind]), numbers[kind]);
            }
            return told;
        }
    }
}
