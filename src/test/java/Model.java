import java.util.ArrayList;
import java.util.Comparator;
import java.util.List;
import java.util.Set;
import java.util.TreeMap;
import java.util.TreeSet;

/**
 * The document once more, as slowly and as near to its words as may be, for comparison: sets of
 * texts for points and edges, nothing kept that can be found anew, everything tried in turn.
 */
final class Model {
    static final int NONE = -1, UNKNOWN = -101, OUTSIDE = -102, STATE = -103, FULL = -104;

    private static final class Wire {
        final List<int[]> points = new ArrayList<>();
        final List<Character> moves = new ArrayList<>();
        boolean laid = true;
        boolean soldered = false;

        Set<String> edges() {
            Set<String> edges = new TreeSet<>();
            for (int i = 1; i < points.size(); i++) {
                edges.add(edge(points.get(i - 1), points.get(i)));
            }
            return edges;
        }

        Set<Integer> places() {
            Set<Integer> places = new TreeSet<>();
            for (int[] p : points) {
                places.add(10 * p[1] + p[0]);
            }
            return places;
        }

        int bends() {
            int bends = 0;
            for (int i = 1; i < moves.size(); i++) {
                if (!moves.get(i).equals(moves.get(i - 1))) {
                    bends++;
                }
            }
            return bends;
        }

        boolean stands() {
            return bends() > 0 || places().size() < points.size();
        }
    }

    private static final class Layer {
        final int colour;
        int thick;
        int ripe = 0;

        Layer(int colour, int thick) {
            this.colour = colour;
            this.thick = thick;
        }
    }

    private int w = 4, h = 4;
    private String page = "";
    private final List<Wire> wires = new ArrayList<>();
    private final int[][] traits = new int[8][];
    private final boolean[][] foes = new boolean[8][8];
    private final int[] rules = {20, 20, 50};
    private List<List<Layer>> glass = new ArrayList<>();
    private int backColour = 0, backThick = 0, firings = 0;
    private final List<int[]> rods = new ArrayList<>();

    Model() {
        for (int colour = 0; colour < 8; colour++) {
            traits[colour] = new int[] {700, 3, 10};
        }
        clearGlass();
    }

    private void clearGlass() {
        glass = new ArrayList<>();
        for (int field = 0; field < w * h; field++) {
            glass.add(new ArrayList<>());
        }
    }

    private static String edge(int[] a, int[] b) {
        int x = Math.min(a[0], b[0]), y = Math.min(a[1], b[1]);
        return x + " " + y + " " + (a[0] == b[0] ? 1 : 0);
    }

    private static String edge(int x, int y, int side) {
        return x + " " + y + " " + side;
    }

    private static boolean in(int v, int least, int most) {
        return v >= least && v <= most;
    }

    private List<Wire> laid() {
        List<Wire> laid = new ArrayList<>();
        for (Wire wire : wires) {
            if (wire.laid) {
                laid.add(wire);
            }
        }
        return laid;
    }

    // ---- wires

    int plate(int newW, int newH) {
        if (!in(newW, 2, 8) || !in(newH, 2, 8)) {
            return OUTSIDE;
        }
        w = newW;
        h = newH;
        wires.clear();
        rods.clear();
        backColour = 0;
        backThick = 0;
        firings = 0;
        clearGlass();
        return w * h;
    }

    int letters(long v) {
        StringBuilder more = new StringBuilder();
        long rest = v;
        while (rest != 0 && (rest & 255) != 0) {
            if ((rest & 255) > 126) {
                return OUTSIDE;
            }
            more.append((char) (rest & 255));
            rest >>>= 8;
        }
        if (rest != 0) {
            return OUTSIDE;
        }
        if (page.length() + more.length() > 40) {
            return FULL;
        }
        page += more;
        return page.length();
    }

    int blank() {
        int had = page.length();
        page = "";
        return had;
    }

    private boolean isPoint(int x, int y) {
        return in(x, 0, w) && in(y, 0, h);
    }

    private boolean isField(int x, int y) {
        return in(x, 0, w - 1) && in(y, 0, h - 1);
    }

    private static int[] step(int[] from, char move) {
        switch (move) {
            case 'r': return new int[] {from[0] + 1, from[1]};
            case 'l': return new int[] {from[0] - 1, from[1]};
            case 'u': return new int[] {from[0], from[1] + 1};
            case 'd': return new int[] {from[0], from[1] - 1};
            default: return new int[] {-1, -1};
        }
    }

    private Wire read(int x, int y) {
        Wire wire = new Wire();
        int[] at = {x, y};
        wire.points.add(at);
        for (char move : page.toCharArray()) {
            at = step(at, move);
            if (!isPoint(at[0], at[1])) {
                break;
            }
            wire.points.add(at);
            wire.moves.add(move);
        }
        return wire;
    }

    int good(int x, int y) {
        return isPoint(x, y) ? Math.min(24, read(x, y).moves.size()) : UNKNOWN;
    }

    int wire(int x, int y) {
        if (!isPoint(x, y)) {
            return UNKNOWN;
        }
        Wire wire = read(x, y);
        if (wire.moves.size() != page.length() || !in(page.length(), 1, 24)) {
            return STATE;
        }
        if (wires.size() == 30) {
            return FULL;
        }
        wires.add(wire);
        page = "";
        return wires.size() - 1;
    }

    int lay(int wire, boolean is) {
        if (!in(wire, 0, wires.size() - 1)) {
            return UNKNOWN;
        }
        boolean was = wires.get(wire).laid;
        wires.get(wire).laid = is;
        return was ? 1 : 0;
    }

    int solder(int wire, boolean is) {
        if (!in(wire, 0, wires.size() - 1)) {
            return UNKNOWN;
        }
        boolean was = wires.get(wire).soldered;
        wires.get(wire).soldered = is;
        return was ? 1 : 0;
    }

    private boolean floats(Wire wire) {
        if (!wire.laid) {
            return false;
        }
        List<Wire> reached = new ArrayList<>();
        reached.add(wire);
        for (int i = 0; i < reached.size(); i++) {
            if (reached.get(i).stands()) {
                return false;
            }
            for (Wire other : laid()) {
                Set<Integer> common = other.places();
                common.retainAll(reached.get(i).places());
                if (!common.isEmpty() && !reached.contains(other)) {
                    reached.add(other);
                }
            }
        }
        return true;
    }

    int about(int wire, int what) {
        if (!in(wire, 0, wires.size() - 1)) {
            return UNKNOWN;
        }
        Wire one = wires.get(wire);
        int[] answers = {one.moves.size(), one.bends(), one.stands() ? 1 : 0, one.edges().size(), floats(one) ? 1 : 0};
        return in(what, 0, 4) ? answers[what] : OUTSIDE;
    }

    int point(int wire, int i) {
        if (!in(wire, 0, wires.size() - 1)) {
            return UNKNOWN;
        }
        List<int[]> points = wires.get(wire).points;
        return in(i, 0, points.size() - 1) ? 10 * points.get(i)[1] + points.get(i)[0] : NONE;
    }

    private TreeMap<String, Integer> coverings() {
        TreeMap<String, Integer> coverings = new TreeMap<>();
        for (Wire wire : laid()) {
            for (String edge : wire.edges()) {
                coverings.merge(edge, 1, Integer::sum);
            }
        }
        return coverings;
    }

    int covers(int x, int y, int side) {
        boolean is = side == 0 ? in(x, 0, w - 1) && in(y, 0, h) : side == 1 && in(x, 0, w) && in(y, 0, h - 1);
        return is ? coverings().getOrDefault(edge(x, y, side), 0) : UNKNOWN;
    }

    private Set<String> meeting(Set<String> edges, int x, int y) {
        Set<String> meeting = new TreeSet<>();
        String[] all = {edge(x, y, 0), edge(x, y, 1), edge(x - 1, y, 0), edge(x, y - 1, 1)};
        for (String edge : all) {
            if (edges.contains(edge)) {
                meeting.add(edge);
            }
        }
        return meeting;
    }

    private List<Integer> places(int sort) {
        Set<String> covered = coverings().keySet();
        List<Integer> places = new ArrayList<>();
        for (int y = 0; y <= h; y++) {
            for (int x = 0; x <= w; x++) {
                int comers = 0;
                for (Wire wire : laid()) {
                    comers += wire.places().contains(10 * y + x) ? 1 : 0;
                }
                boolean inside = in(x, 1, w - 1) && in(y, 1, h - 1);
                if (sort == 1 ? comers > 1 : inside && meeting(covered, x, y).size() == 1) {
                    places.add(10 * y + x);
                }
            }
        }
        return places;
    }

    private int pieces() {
        Set<String> left = new TreeSet<>(coverings().keySet());
        int pieces = 0;
        while (!left.isEmpty()) {
            List<String> set = new ArrayList<>();
            set.add(left.iterator().next());
            left.remove(set.get(0));
            TreeMap<Integer, Integer> meets = new TreeMap<>();
            for (int i = 0; i < set.size(); i++) {
                String[] e = set.get(i).split(" ");
                int x = Integer.parseInt(e[0]), y = Integer.parseInt(e[1]), up = Integer.parseInt(e[2]);
                int[][] ends = {{x, y}, {x + 1 - up, y + up}};
                for (int[] end : ends) {
                    meets.merge(10 * end[1] + end[0], 1, Integer::sum);
                    Set<String> more = meeting(left, end[0], end[1]);
                    set.addAll(more);
                    left.removeAll(more);
                }
            }
            int odd = 0;
            for (int number : meets.values()) {
                odd += number % 2;
            }
            pieces += Math.max(1, odd / 2);
        }
        return pieces;
    }

    int many(int what) {
        int doubles = 0;
        for (int number : coverings().values()) {
            doubles += number > 1 ? 1 : 0;
        }
        int floating = 0;
        for (Wire wire : wires) {
            floating += floats(wire) ? 1 : 0;
        }
        int greatest = 0;
        for (int cell : cells()) {
            greatest = Math.max(greatest, size(cell));
        }
        int[] answers = {places(0).size(), places(1).size(), doubles, floating, coverings().size(), pieces(),
            cells().size(), greatest};
        return in(what, 0, 7) ? answers[what] : OUTSIDE;
    }

    int end(int sort, int i) {
        if (!in(sort, 0, 1)) {
            return OUTSIDE;
        }
        List<Integer> places = places(sort);
        return in(i, 0, places.size() - 1) ? places.get(i) : NONE;
    }

    /** The edge between two fields beside one another; null if they are not. */
    private String between(int a, int b) {
        int ax = a % w, ay = a / w, bx = b % w, by = b / w;
        if (ay == by && Math.abs(ax - bx) == 1) {
            return edge(Math.max(ax, bx), ay, 1);
        }
        return ax == bx && Math.abs(ay - by) == 1 ? edge(ax, Math.max(ay, by), 0) : null;
    }

    /** Each field takes the least number that is to be had from open ones, until none changes. */
    private int[] cellOf() {
        int[] cell = new int[w * h];
        for (int field = 0; field < cell.length; field++) {
            cell[field] = field;
        }
        Set<String> covered = coverings().keySet();
        boolean changed = true;
        while (changed) {
            changed = false;
            for (int a = 0; a < cell.length; a++) {
                for (int b = 0; b < cell.length; b++) {
                    String edge = between(a, b);
                    if (edge != null && !covered.contains(edge) && cell[b] < cell[a]) {
                        cell[a] = cell[b];
                        changed = true;
                    }
                }
            }
        }
        return cell;
    }

    private Set<Integer> cells() {
        Set<Integer> cells = new TreeSet<>();
        for (int cell : cellOf()) {
            cells.add(cell);
        }
        return cells;
    }

    int cell(int x, int y) {
        return isField(x, y) ? cellOf()[w * y + x] : UNKNOWN;
    }

    int size(int cell) {
        int size = 0;
        for (int one : cellOf()) {
            size += one == cell ? 1 : 0;
        }
        return size > 0 ? size : UNKNOWN;
    }

    /** All ways in turn, as numbers are counted up, the first cell's paint being the highest digit. */
    private int[] firstWay() {
        List<Integer> numbers = new ArrayList<>(cells());
        int[] cell = cellOf();
        boolean[][] near = new boolean[numbers.size()][numbers.size()];
        for (int a = 0; a < cell.length; a++) {
            for (int b = 0; b < cell.length; b++) {
                if (between(a, b) != null && cell[a] != cell[b]) {
                    near[numbers.indexOf(cell[a])][numbers.indexOf(cell[b])] = true;
                }
            }
        }
        for (int paints = 1; ; paints++) {
            int[] way = new int[numbers.size()];
            while (way[0] < paints) {
                int wrong = firstWrong(near, way);
                if (wrong == NONE) {
                    return way;
                }
                countUp(way, wrong, paints);
            }
        }
    }

    private static int firstWrong(boolean[][] near, int[] way) {
        for (int i = 0; i < way.length; i++) {
            for (int j = 0; j < i; j++) {
                if (near[i][j] && way[i] == way[j]) {
                    return i;
                }
            }
        }
        return NONE;
    }

    private static void countUp(int[] way, int at, int paints) {
        for (int i = at + 1; i < way.length; i++) {
            way[i] = 0;
        }
        int i = at;
        way[i]++;
        while (i > 0 && way[i] == paints) {
            way[i] = 0;
            i--;
            way[i]++;
        }
    }

    int paints() {
        if (cells().size() > 10) {
            return STATE;
        }
        int most = 0;
        for (int paint : firstWay()) {
            most = Math.max(most, paint);
        }
        return most + 1;
    }

    int paint(int cell) {
        if (!cells().contains(cell)) {
            return UNKNOWN;
        }
        return cells().size() > 10 ? STATE : firstWay()[new ArrayList<>(cells()).indexOf(cell)];
    }

    // ---- glass

    int colour(int colour, int what, int v) {
        int[] least = {1, 0, 0}, most = {900, 9, 99};
        if (!in(colour, 0, 7) || !in(what, 0, 2)) {
            return UNKNOWN;
        }
        if (!in(v, least[what], most[what])) {
            return OUTSIDE;
        }
        int was = traits[colour][what];
        traits[colour][what] = v;
        return was;
    }

    int foes(int a, int b, boolean is) {
        if (!in(a, 0, 7) || !in(b, 0, 7)) {
            return UNKNOWN;
        }
        if (a == b) {
            return OUTSIDE;
        }
        boolean were = foes[a][b];
        foes[a][b] = is;
        foes[b][a] = is;
        return were ? 1 : 0;
    }

    int rule(int which, int v) {
        if (!in(which, 0, 2)) {
            return UNKNOWN;
        }
        if (!in(v, 1, which == 2 ? 999 : 99)) {
            return OUTSIDE;
        }
        int was = rules[which];
        rules[which] = v;
        return was;
    }

    private List<List<Layer>> glassOf(int cell) {
        List<List<Layer>> of = new ArrayList<>();
        int[] cells = cellOf();
        for (int field = 0; field < cells.length; field++) {
            if (cells[field] == cell) {
                of.add(glass.get(field));
            }
        }
        return of;
    }

    int fill(int cell, int colour, int v) {
        if (!cells().contains(cell) || !in(colour, 0, 7)) {
            return UNKNOWN;
        }
        if (!in(v, 1, 99)) {
            return OUTSIDE;
        }
        for (List<Layer> layers : glassOf(cell)) {
            if (layers.size() == 12) {
                return FULL;
            }
        }
        for (List<Layer> layers : glassOf(cell)) {
            layers.add(new Layer(colour, v));
        }
        return glassOf(cell).size();
    }

    int empty(int cell) {
        if (!cells().contains(cell)) {
            return UNKNOWN;
        }
        int went = 0;
        for (List<Layer> layers : glassOf(cell)) {
            went += layers.size();
            layers.clear();
        }
        return went;
    }

    private static int high(List<Layer> layers) {
        int high = 0;
        for (Layer layer : layers) {
            high += layer.thick;
        }
        return high;
    }

    int field(int x, int y, int what) {
        if (!isField(x, y)) {
            return UNKNOWN;
        }
        List<Layer> layers = glass.get(w * y + x);
        return what == 0 ? high(layers) : what == 1 ? layers.size() : OUTSIDE;
    }

    int layer(int x, int y, int i, int what) {
        if (!isField(x, y)) {
            return UNKNOWN;
        }
        if (!in(what, 0, 2)) {
            return OUTSIDE;
        }
        List<Layer> layers = glass.get(w * y + x);
        if (!in(i, 0, layers.size() - 1)) {
            return NONE;
        }
        Layer layer = layers.get(i);
        return what == 0 ? layer.colour : what == 1 ? layer.thick : layer.ripe;
    }

    int fire(int t) {
        if (!in(t, 1, 999)) {
            return OUTSIDE;
        }
        int fired = 0;
        for (List<Layer> layers : glass) {
            for (Layer layer : layers) {
                if (layer.ripe == 0 && traits[layer.colour][0] <= t) {
                    layer.ripe = 1;
                    layer.thick -= (int) Math.floor(layer.thick * traits[layer.colour][1] / 10.0);
                    fired++;
                }
            }
        }
        for (List<Layer> layers : glass) {
            for (Layer layer : layers) {
                if (layer.ripe == 1 && traits[layer.colour][0] + 50 < t) {
                    layer.ripe = 2;
                }
            }
        }
        runOver();
        firings++;
        return fired;
    }

    private void runOver() {
        int[] highs = new int[w * h];
        for (int field = 0; field < highs.length; field++) {
            highs[field] = high(glass.get(field));
        }
        Set<String> covered = coverings().keySet();
        for (int field = 0; field < highs.length; field++) {
            boolean runs = false;
            for (int other = 0; other < highs.length; other++) {
                String edge = between(field, other);
                runs |= edge != null && covered.contains(edge) && highs[field] > rules[0] && highs[other] < rules[0];
            }
            if (runs) {
                Layer upmost = glass.get(field).get(glass.get(field).size() - 1);
                upmost.thick -= highs[field] - rules[0];
                if (upmost.thick <= 0) {
                    glass.get(field).remove(upmost);
                }
            }
        }
    }

    int polish() {
        int went = 0;
        for (List<Layer> layers : glass) {
            while (high(layers) > rules[0]) {
                Layer upmost = layers.get(layers.size() - 1);
                upmost.thick--;
                went++;
                if (upmost.thick == 0) {
                    layers.remove(upmost);
                }
            }
        }
        return went;
    }

    int state(int what) {
        int[] answers = {0, 0, 0, 0, bleeding(), firings};
        for (List<Layer> layers : glass) {
            answers[3] += high(layers) >= rules[0] ? 1 : 0;
            for (Layer layer : layers) {
                answers[layer.ripe]++;
            }
        }
        return in(what, 0, 5) ? answers[what] : OUTSIDE;
    }

    private int bleeding() {
        Set<String> soldered = new TreeSet<>();
        for (Wire wire : laid()) {
            if (wire.soldered) {
                soldered.addAll(wire.edges());
            }
        }
        int edges = 0;
        for (int a = 0; a < w * h; a++) {
            for (int b = a + 1; b < w * h; b++) {
                Layer one = upmost(a), other = upmost(b);
                String edge = between(a, b);
                if (edge != null && one != null && other != null && foes[one.colour][other.colour]
                        && !soldered.contains(edge)) {
                    edges++;
                }
            }
        }
        return edges;
    }

    private Layer upmost(int field) {
        List<Layer> layers = glass.get(field);
        return layers.isEmpty() ? null : layers.get(layers.size() - 1);
    }

    int fills(int colour) {
        if (!in(colour, 0, 7)) {
            return UNKNOWN;
        }
        int times = 0;
        for (int high = 0; high < rules[0] - 1; times++) {
            int raw = rules[0] - high;
            high += raw - raw * traits[colour][1] / 10;
        }
        return times;
    }

    private List<Integer> heats(int colours) {
        List<Integer> order = new ArrayList<>();
        for (int colour = 0; colour < 8; colour++) {
            if ((colours & 1 << colour) != 0) {
                order.add(colour);
            }
        }
        order.sort(Comparator.comparingInt((Integer colour) -> traits[colour][0]));
        List<Integer> heats = new ArrayList<>();
        for (int colour : order) {
            int least = traits[colour][0];
            int reached = 0;
            for (int heat : heats) {
                reached += in(heat, least, least + 50) ? 1 : 0;
            }
            for (; reached < fills(colour); reached++) {
                heats.add(least + 50);
            }
        }
        heats.sort(Comparator.reverseOrder());
        return heats;
    }

    int plan(int colours) {
        return in(colours, 0, 255) ? heats(colours).size() : OUTSIDE;
    }

    int heat(int colours, int i) {
        if (!in(colours, 0, 255)) {
            return OUTSIDE;
        }
        List<Integer> heats = heats(colours);
        return in(i, 0, heats.size() - 1) ? heats.get(i) : NONE;
    }

    // ---- the plate's pull

    int back(int colour, int thick) {
        if (!in(colour, 0, 7)) {
            return UNKNOWN;
        }
        if (!in(thick, 0, 99)) {
            return OUTSIDE;
        }
        backColour = colour;
        backThick = thick;
        return 1;
    }

    int pull(int side) {
        if (side == 1) {
            return w * h * backThick * traits[backColour][2];
        }
        int pull = 0;
        for (List<Layer> layers : glass) {
            for (Layer layer : layers) {
                pull += layer.ripe > 0 ? layer.thick * traits[layer.colour][2] : 0;
            }
        }
        return side == 0 ? pull : OUTSIDE;
    }

    private static int towardsZero(int a, int b) {
        int q = Math.abs(a) / b;
        return a < 0 ? -q : q;
    }

    int bow(int what) {
        int bow = towardsZero(pull(0) - pull(1), w * h);
        return what == 0 ? bow : what == 1 ? towardsZero(bow, rules[1]) : -1000001;
    }

    int straight(int colour) {
        if (!in(colour, 0, 7)) {
            return UNKNOWN;
        }
        int keptColour = backColour, keptThick = backThick;
        int best = 0, least = Integer.MAX_VALUE;
        for (int thick = 0; thick <= 99; thick++) {
            back(colour, thick);
            if (Math.abs(bow(0)) < least) {
                least = Math.abs(bow(0));
                best = thick;
            }
        }
        back(keptColour, keptThick);
        return best;
    }

    int strain(int a, int b) {
        if (!in(a, 0, 999) || !in(b, 0, 999) || b > a) {
            return OUTSIDE;
        }
        return (int) ((long) (a - b) * Math.abs(bow(0)) / 1000);
    }

    /** The heats of a cooling, from its beginning; null, if each step cracks. */
    private List<Integer> coolingHeats(int a) {
        int bow = Math.abs(bow(0));
        List<Integer> heats = new ArrayList<>();
        heats.add(a);
        int at = a;
        while (at > 0) {
            int next = 0;
            while (next < at && (long) (at - next) * bow / 1000 > rules[2]) {
                next++;
            }
            if (next == at) {
                return null;
            }
            at = next;
            heats.add(at);
        }
        return heats;
    }

    int cooling(int a) {
        if (!in(a, 0, 999)) {
            return OUTSIDE;
        }
        List<Integer> heats = coolingHeats(a);
        return heats == null ? NONE : heats.size() - 1;
    }

    int cool(int a, int i) {
        if (!in(a, 0, 999)) {
            return OUTSIDE;
        }
        List<Integer> heats = coolingHeats(a);
        if (i == 0) {
            return a;
        }
        return heats != null && in(i, 0, heats.size() - 1) ? heats.get(i) : NONE;
    }

    int harms(int cell, int t) {
        if (!cells().contains(cell)) {
            return UNKNOWN;
        }
        if (!in(t, 1, 999)) {
            return OUTSIDE;
        }
        return harmed(cell, cellOf(), t);
    }

    private int harmed(int flawed, int[] cellOf, int t) {
        Set<Integer> harmed = new TreeSet<>();
        for (int field = 0; field < w * h; field++) {
            Layer layer = upmost(field);
            if (layer != null && layer.ripe == 1 && traits[layer.colour][0] + 50 < t) {
                harmed.add(cellOf[field]);
            }
        }
        harmed.remove(flawed);
        return harmed.size();
    }

    int safe(int cell, int colour, int side) {
        if (!cells().contains(cell) || !in(colour, 0, 7)) {
            return UNKNOWN;
        }
        if (!in(side, 0, 1)) {
            return OUTSIDE;
        }
        int[] cellOf = cellOf();
        int least = traits[colour][0];
        int t = least;
        while (t <= 999 && harmed(cell, cellOf, t) == 0) {
            t++;
        }
        if (t == least) {
            return NONE;
        }
        return side == 0 ? least : t - 1;
    }

    // ---- rods

    int rod(int length, int many) {
        if (!in(length, 1, 99) || !in(many, 0, 20)) {
            return OUTSIDE;
        }
        if (rods.size() == 8) {
            return FULL;
        }
        rods.add(new int[] {length, many});
        return rods.size() - 1;
    }

    int cut(int what) {
        if (!in(what, 0, 1)) {
            return OUTSIDE;
        }
        if (laid().size() > 8) {
            return STATE;
        }
        int[] lengths = new int[laid().size()];
        for (int i = 0; i < lengths.length; i++) {
            lengths[i] = laid().get(i).moves.size();
        }
        int[] left = new int[rods.size()];
        for (int kind = 0; kind < left.length; kind++) {
            left[kind] = rods.get(kind)[1];
        }
        int[] best = {Integer.MAX_VALUE, Integer.MAX_VALUE};
        cutOn(lengths, 0, left, new ArrayList<>(), 0, best);
        return best[0] == Integer.MAX_VALUE ? NONE : best[what];
    }

    /** Each wire in turn from each rod that was begun and from each kind that has one left. */
    private void cutOn(int[] lengths, int at, int[] left, List<Integer> begun, int used, int[] best) {
        if (begun.size() > best[0]) {
            return;
        }
        if (at == lengths.length) {
            int waste = used;
            for (int length : lengths) {
                waste -= length;
            }
            if (begun.size() < best[0] || waste < best[1]) {
                best[0] = begun.size();
                best[1] = waste;
            }
            return;
        }
        for (int i = 0; i < begun.size(); i++) {
            if (begun.get(i) >= lengths[at]) {
                begun.set(i, begun.get(i) - lengths[at]);
                cutOn(lengths, at + 1, left, begun, used, best);
                begun.set(i, begun.get(i) + lengths[at]);
            }
        }
        for (int kind = 0; kind < left.length; kind++) {
            int length = rods.get(kind)[0];
            if (left[kind] > 0 && length >= lengths[at]) {
                left[kind]--;
                begun.add(length - lengths[at]);
                cutOn(lengths, at + 1, left, begun, used + length, best);
                begun.remove(begun.size() - 1);
                left[kind]++;
            }
        }
    }

    // ---- what is told

    int count(int what) {
        int layers = state(0) + state(1) + state(2);
        int[] answers = {w * h, wires.size(), laid().size(), page.length(), rods.size(), layers};
        return in(what, 0, 5) ? answers[what] : OUTSIDE;
    }

    long digest() {
        List<Integer> told = new ArrayList<>(List.of(w, h));
        for (int i = 0; i < wires.size(); i++) {
            told.add(wires.get(i).laid ? 1 : 0);
            told.add(wires.get(i).soldered ? 1 : 0);
            for (int j = 0; j < wires.get(i).points.size(); j++) {
                told.add(point(i, j));
            }
        }
        for (int[] of : traits) {
            told.addAll(List.of(of[0], of[1], of[2]));
        }
        for (int a = 0; a < 8; a++) {
            for (int b = a + 1; b < 8; b++) {
                told.add(foes[a][b] ? 1 : 0);
            }
        }
        told.addAll(List.of(rules[0], rules[1], rules[2]));
        for (List<Layer> layers : glass) {
            for (Layer layer : layers) {
                told.addAll(List.of(layer.colour, layer.thick, layer.ripe));
            }
        }
        told.addAll(List.of(backColour, backThick, firings));
        for (int[] rod : rods) {
            told.addAll(List.of(rod[0], rod[1]));
        }
        for (char letter : page.toCharArray()) {
            told.add((int) letter);
        }
        long hash = 233;
        for (int number : told) {
            hash = 31 * hash + number;
        }
        return hash;
    }
}
