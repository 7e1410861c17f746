import java.util.ArrayDeque;
import java.util.ArrayList;
import java.util.Arrays;
import java.util.Deque;
import java.util.HashMap;
import java.util.HashSet;
import java.util.LinkedHashMap;
import java.util.LinkedHashSet;
import java.util.List;
import java.util.Map;
import java.util.Set;
import java.util.TreeSet;
import java.util.regex.Matcher;
import java.util.regex.Pattern;

/** The document again, in its plainest form and with the whole library, to compare answers with. */
final class Reference {
    private static final int NONE = -1, BAD_INDEX = -2, BAD_VALUE = -3, BAD_STATE = -4, FULL = -5;

    private record Spot(int x, int y) {}

    private record Part(int terrain, int tile, int way, int variant) {
        int property(int what) {
            return new int[] {terrain, tile, way, variant}[what];
        }
    }

    private record Cell(List<Part> parts, int pathTile) {}

    private static final Cell BARE = new Cell(List.of(), NONE);

    /** The state; all its values are immutable, so that a shallow copy of the maps is a copy. */
    private static final class State {
        int w;
        int h;
        Map<Spot, Integer> terrain = new HashMap<>();
        TreeSet<Integer> paths = new TreeSet<>();
        List<Integer> order = new ArrayList<>(List.of(0, 1, 2, 3, 4, 5));
        List<Integer> sets = new ArrayList<>(List.of(65534, 65534, 65534, 65534, 65534, 65534));
        List<Integer> variants = new ArrayList<>(List.of(1, 1, 1, 1, 1, 1));
        int seed;
        boolean border;
        Map<Spot, Cell> painted = new HashMap<>();
        Set<Spot> touched = new HashSet<>();

        State copy() {
            State c = new State();
            c.w = w;
            c.h = h;
            c.terrain = new HashMap<>(terrain);
            c.paths = new TreeSet<>(paths);
            c.order = new ArrayList<>(order);
            c.sets = new ArrayList<>(sets);
            c.variants = new ArrayList<>(variants);
            c.seed = seed;
            c.border = border;
            c.painted = new HashMap<>(painted);
            c.touched = new HashSet<>(touched);
            return c;
        }
    }

    private State s = new State();
    private final Deque<State> history = new ArrayDeque<>();
    private final StringBuilder text = new StringBuilder();
    private String written = "";

    Reference() {
        newMap(4, 4);
        all(0);
    }

    // ---- helpers

    private void record() {
        history.addLast(s.copy());
        if (history.size() > 5) {
            history.removeFirst();
        }
    }

    private void newMap(int w, int h) {
        s.w = w;
        s.h = h;
        s.terrain.clear();
        s.paths.clear();
        s.painted.clear();
        s.touched.clear();
        s.touched.addAll(cells());
    }

    private void all(int terrain) {
        for (Spot c : corners()) {
            s.terrain.put(c, terrain);
        }
    }

    private List<Spot> grid(int w, int h) {
        List<Spot> spots = new ArrayList<>();
        for (int y = 0; y < h; y++) {
            for (int x = 0; x < w; x++) {
                spots.add(new Spot(x, y));
            }
        }
        return spots;
    }

    private List<Spot> cells() {
        return grid(s.w, s.h);
    }

    private List<Spot> corners() {
        return grid(s.w + 1, s.h + 1);
    }

    private boolean noCell(int x, int y) {
        return x < 0 || y < 0 || x >= s.w || y >= s.h;
    }

    private boolean noCorner(int x, int y) {
        return x < 0 || y < 0 || x > s.w || y > s.h;
    }

    private static boolean noTerrain(int t) {
        return t < 0 || t > 5;
    }

    private int put(Spot c, int terrain) {
        if (s.terrain.get(c) == terrain) {
            return 0;
        }
        s.terrain.put(c, terrain);
        for (Spot cell : cells()) {
            if (cornersOf(cell).contains(c)) {
                s.touched.add(cell);
            }
        }
        return 1;
    }

    private List<Spot> cornersOf(Spot c) {
        return List.of(c, new Spot(c.x + 1, c.y), new Spot(c.x, c.y + 1), new Spot(c.x + 1, c.y + 1));
    }

    private Set<Spot> region(Spot from) {
        Set<Spot> found = new LinkedHashSet<>();
        Deque<Spot> next = new ArrayDeque<>(List.of(from));
        while (!next.isEmpty()) {
            Spot c = next.pop();
            if (s.terrain.get(c).equals(s.terrain.get(from)) && found.add(c)) {
                next.addAll(cornersBeside(c));
            }
        }
        return found;
    }

    private List<Spot> cornersBeside(Spot c) {
        List<Spot> beside = new ArrayList<>();
        for (int b = 0; b < 8; b += 2) {
            Spot other = new Spot(c.x + AROUND[b][0], c.y + AROUND[b][1]);
            if (!noCorner(other.x, other.y)) {
                beside.add(other);
            }
        }
        return beside;
    }

    private boolean pathAt(int x, int y) {
        return noCell(x, y) ? s.border : s.paths.contains(100 * y + x);
    }

    private static final int[][] AROUND = {
        {0, -1}, {1, -1}, {1, 0}, {1, 1}, {0, 1}, {-1, 1}, {-1, 0}, {-1, -1}
    };

    private static int maskOf(boolean[] near) {
        int sum = 0;
        for (int b = 0; b < 8; b++) {
            if (near[b] && (b % 2 == 0 || near[b - 1] && near[(b + 1) % 8])) {
                sum += 1 << b;
            }
        }
        return sum;
    }

    private static final TreeSet<Integer> PATH_MASKS = new TreeSet<>();

    static {
        for (int n = 0; n < 256; n++) {
            boolean[] near = new boolean[8];
            for (int b = 0; b < 8; b++) {
                near[b] = (n & 1 << b) != 0;
            }
            PATH_MASKS.add(maskOf(near));
        }
    }

    private static int swap(int mask, int a, int b) {
        int bitA = mask >> a & 1;
        int bitB = mask >> b & 1;
        return mask & ~(1 << a) & ~(1 << b) | bitA << b | bitB << a;
    }

    private static int flip(int mask, int way) {
        int m = mask;
        if (way == 1 || way == 3) {
            m = swap(swap(m, 0, 1), 2, 3);
        }
        if (way == 2 || way == 3) {
            m = swap(swap(m, 0, 2), 1, 3);
        }
        return m;
    }

    private static int wayIn(int set, int mask) {
        for (int way = 0; way < 4; way++) {
            if ((set & 1 << flip(mask, way)) != 0) {
                return way;
            }
        }
        return NONE;
    }

    private static final Map<Integer, List<Integer>> DRAWN = new HashMap<>();

    /** The masks by which a mask is drawn: found among all sets of its parts. */
    private static List<Integer> drawn(int set, int mask) {
        return DRAWN.computeIfAbsent(set * 16 + mask, key -> findDrawn(set, mask));
    }

    private static List<Integer> findDrawn(int set, int mask) {
        if (wayIn(set, mask) != NONE) {
            return List.of(mask);
        }
        List<Integer> parts = new ArrayList<>();
        for (int m = 1; m < 16; m++) {
            if ((m & mask) == m && wayIn(set, m) != NONE) {
                parts.add(m);
            }
        }
        List<Integer> best = null;
        for (int choice = 1; choice < 1 << parts.size(); choice++) {
            List<Integer> chosen = new ArrayList<>();
            int union = 0;
            for (int i = 0; i < parts.size(); i++) {
                if ((choice & 1 << i) != 0) {
                    chosen.add(parts.get(i));
                    union |= parts.get(i);
                }
            }
            if (union == mask && (best == null || isBefore(chosen, best))) {
                best = chosen;
            }
        }
        return best == null ? List.of(15) : best;
    }

    private static boolean isBefore(List<Integer> a, List<Integer> b) {
        if (a.size() != b.size()) {
            return a.size() < b.size();
        }
        for (int i = 0; i < a.size(); i++) {
            if (!a.get(i).equals(b.get(i))) {
                return a.get(i) < b.get(i);
            }
        }
        return false;
    }

    private int variant(int x, int y, int t) {
        int h = s.seed;
        h = 31 * h + x;
        h = 31 * h + y;
        h = 31 * h + t;
        h = (h ^ (h >>> 15)) * 739982445;
        int hash = (h ^ (h >>> 12)) >>> 1;
        return hash % s.variants.get(t);
    }

    /** Terrain and mask of each layer. */
    private List<int[]> layersOf(Spot cell) {
        List<int[]> layers = new ArrayList<>();
        for (int t : s.order) {
            int mask = 0;
            boolean has = false;
            for (int b = 0; b < 4; b++) {
                int other = s.terrain.get(cornersOf(cell).get(b));
                has |= other == t;
                mask += s.order.indexOf(other) >= s.order.indexOf(t) ? 1 << b : 0;
            }
            if (has) {
                layers.add(new int[] {t, mask});
            }
        }
        return layers;
    }

    private Cell dueIn(Spot cell) {
        List<Part> parts = new ArrayList<>();
        for (int[] layer : layersOf(cell)) {
            int set = s.sets.get(layer[0]);
            for (int m : drawn(set, layer[1])) {
                int way = wayIn(set, m);
                int tile = flip(m, way);
                int variant = tile == 15 ? variant(cell.x, cell.y, layer[0]) : 0;
                parts.add(new Part(layer[0], tile, way, variant));
            }
        }
        return new Cell(parts, pathTile(cell.x, cell.y));
    }

    private Cell paintedIn(Spot cell) {
        return s.painted.getOrDefault(cell, BARE);
    }

    private boolean staleIn(Spot cell) {
        return !paintedIn(cell).equals(dueIn(cell));
    }

    private Map<Part, Integer> kindsNow() {
        Map<Part, Integer> kinds = new LinkedHashMap<>();
        for (Spot cell : cells()) {
            for (Part p : paintedIn(cell).parts()) {
                kinds.merge(p, 1, Integer::sum);
            }
        }
        return kinds;
    }

    // ---- the face

    int begin(int w, int h, int t) {
        if (noTerrain(t)) {
            return BAD_INDEX;
        }
        if (w < 1 || w > 10 || h < 1 || h > 10) {
            return BAD_VALUE;
        }
        record();
        newMap(w, h);
        all(t);
        return w * h;
    }

    int size(int what) {
        return what == 0 ? s.w : what == 1 ? s.h : what == 2 ? s.paths.size() : BAD_VALUE;
    }

    int setCorner(int x, int y, int t) {
        if (noCorner(x, y) || noTerrain(t)) {
            return BAD_INDEX;
        }
        record();
        int had = corner(x, y);
        put(new Spot(x, y), t);
        return had;
    }

    int corner(int x, int y) {
        return noCorner(x, y) ? BAD_INDEX : s.terrain.get(new Spot(x, y));
    }

    int fill(int x, int y, int toX, int toY, int t) {
        if (noCorner(x, y) || noCorner(toX, toY) || noTerrain(t)) {
            return BAD_INDEX;
        }
        record();
        int changed = 0;
        for (Spot c : corners()) {
            boolean inX = c.x >= x && c.x <= toX || c.x >= toX && c.x <= x;
            boolean inY = c.y >= y && c.y <= toY || c.y >= toY && c.y <= y;
            changed += inX && inY ? put(c, t) : 0;
        }
        return changed;
    }

    int flood(int x, int y, int t) {
        if (noCorner(x, y) || noTerrain(t)) {
            return BAD_INDEX;
        }
        record();
        int changed = 0;
        for (Spot c : region(new Spot(x, y))) {
            changed += put(c, t);
        }
        return changed;
    }

    int raise(int x, int y, int t) {
        if (noCorner(x, y) || noTerrain(t)) {
            return BAD_INDEX;
        }
        record();
        int changed = put(new Spot(x, y), t);
        int r = rank(t);
        for (Spot c : corners()) {
            int d = Math.max(Math.abs(c.x - x), Math.abs(c.y - y));
            int rank = rank(s.terrain.get(c));
            if (d > 0 && rank < r - d) {
                changed += put(c, s.order.get(r - d));
            } else if (d > 0 && rank > r + d) {
                changed += put(c, s.order.get(r + d));
            }
        }
        return changed;
    }

    int regions(int t) {
        if (noTerrain(t)) {
            return BAD_INDEX;
        }
        Set<Spot> met = new HashSet<>();
        int found = 0;
        for (Spot c : corners()) {
            if (s.terrain.get(c) == t && !met.contains(c)) {
                met.addAll(region(c));
                found++;
            }
        }
        return found;
    }

    int setPath(int x, int y, boolean on) {
        if (noCell(x, y)) {
            return BAD_INDEX;
        }
        record();
        int had = hasPath(x, y);
        if (had == 1 != on) {
            if (on) {
                s.paths.add(100 * y + x);
            } else {
                s.paths.remove(100 * y + x);
            }
            for (Spot c : cells()) {
                if (Math.abs(c.x - x) <= 1 && Math.abs(c.y - y) <= 1) {
                    s.touched.add(c);
                }
            }
        }
        return had;
    }

    int hasPath(int x, int y) {
        return noCell(x, y) ? BAD_INDEX : s.paths.contains(100 * y + x) ? 1 : 0;
    }

    int pathMask(int x, int y) {
        if (noCell(x, y)) {
            return BAD_INDEX;
        }
        if (hasPath(x, y) == 0) {
            return NONE;
        }
        boolean[] near = new boolean[8];
        for (int b = 0; b < 8; b++) {
            near[b] = pathAt(x + AROUND[b][0], y + AROUND[b][1]);
        }
        return maskOf(near);
    }

    int pathTile(int x, int y) {
        int mask = pathMask(x, y);
        return mask < 0 ? mask : PATH_MASKS.headSet(mask).size();
    }

    int setRank(int t, int rank) {
        if (noTerrain(t)) {
            return BAD_INDEX;
        }
        if (rank < 0 || rank > 5) {
            return BAD_VALUE;
        }
        record();
        int had = rank(t);
        s.order.remove(Integer.valueOf(t));
        s.order.add(rank, t);
        touchIf(had != rank);
        return had;
    }

    private void touchIf(boolean changed) {
        if (changed) {
            s.touched.addAll(cells());
        }
    }

    int rank(int t) {
        return noTerrain(t) ? BAD_INDEX : s.order.indexOf(t);
    }

    int setTiles(int t, int set) {
        if (noTerrain(t)) {
            return BAD_INDEX;
        }
        if (set < 0 || set > 65535) {
            return BAD_VALUE;
        }
        record();
        int to = set / 2 * 2 % 32768 + 32768;
        int had = s.sets.set(t, to);
        touchIf(had != to);
        return had;
    }

    int setVariants(int t, int many) {
        if (noTerrain(t)) {
            return BAD_INDEX;
        }
        if (many < 1 || many > 8) {
            return BAD_VALUE;
        }
        record();
        int had = s.variants.set(t, many);
        touchIf(had != many);
        return had;
    }

    int setSeed(int seed) {
        record();
        boolean other = s.seed != seed;
        s.seed = seed;
        touchIf(other);
        return other ? 1 : 0;
    }

    int setBorder(boolean on) {
        record();
        boolean had = s.border;
        s.border = on;
        touchIf(had != on);
        return had ? 1 : 0;
    }

    int way(int t, int mask) {
        return noTerrain(t) ? BAD_INDEX
                : mask < 1 || mask > 15 ? BAD_VALUE : wayIn(s.sets.get(t), mask);
    }

    int parts(int t, int mask) {
        return noTerrain(t) ? BAD_INDEX
                : mask < 1 || mask > 15 ? BAD_VALUE : drawn(s.sets.get(t), mask).size();
    }

    int layers(int x, int y) {
        return noCell(x, y) ? BAD_INDEX : layersOf(new Spot(x, y)).size();
    }

    int layer(int x, int y, int layer, int what) {
        if (noCell(x, y) || layer < 0 || layer >= layers(x, y)) {
            return BAD_INDEX;
        }
        return what < 0 || what > 1 ? BAD_VALUE : layersOf(new Spot(x, y)).get(layer)[what];
    }

    int pieces(int x, int y) {
        return noCell(x, y) ? BAD_INDEX : dueIn(new Spot(x, y)).parts().size();
    }

    int piece(int x, int y, int piece, int what) {
        if (noCell(x, y) || piece < 0 || piece >= pieces(x, y)) {
            return BAD_INDEX;
        }
        return what < 0 || what > 3
                ? BAD_VALUE
                : dueIn(new Spot(x, y)).parts().get(piece).property(what);
    }

    int painted(int x, int y) {
        return noCell(x, y) ? BAD_INDEX : paintedIn(new Spot(x, y)).parts().size();
    }

    int isStale(int x, int y) {
        return noCell(x, y) ? BAD_INDEX : staleIn(new Spot(x, y)) ? 1 : 0;
    }

    int touched() {
        return s.touched.size();
    }

    int stale() {
        return (int) cells().stream().filter(this::staleIn).count();
    }

    int paint() {
        record();
        int were = (int) s.touched.stream().filter(this::staleIn).count();
        for (Spot c : s.touched) {
            s.painted.put(c, dueIn(c));
        }
        s.touched.clear();
        return were;
    }

    int paintCell(int x, int y) {
        if (noCell(x, y)) {
            return BAD_INDEX;
        }
        record();
        Spot c = new Spot(x, y);
        int was = staleIn(c) ? 1 : 0;
        s.painted.put(c, dueIn(c));
        s.touched.remove(c);
        return was;
    }

    int kinds() {
        return kindsNow().size();
    }

    int kind(int kind, int what) {
        List<Part> kinds = new ArrayList<>(kindsNow().keySet());
        if (kind < 0 || kind >= kinds.size()) {
            return BAD_INDEX;
        }
        if (what < 0 || what > 4) {
            return BAD_VALUE;
        }
        return what == 4 ? kindsNow().get(kinds.get(kind)) : kinds.get(kind).property(what);
    }

    int undo() {
        if (history.isEmpty()) {
            return BAD_STATE;
        }
        s = history.removeLast();
        return history.size();
    }

    int type(int code) {
        if (code < 0 || code > 255) {
            return BAD_VALUE;
        }
        if (text.length() >= 150) {
            return FULL;
        }
        text.append((char) code);
        return text.length();
    }

    int clearText() {
        int had = text.length();
        text.setLength(0);
        return had;
    }

    private static final Pattern TOKEN = Pattern.compile("[0-9]+| +|[a-f]|/|.", Pattern.DOTALL);

    int textFault() {
        List<List<Integer>> rows = new ArrayList<>(List.of(new ArrayList<>()));
        int number = 0;
        Matcher m = TOKEN.matcher(text);
        while (m.find()) {
            String token = m.group();
            List<Integer> row = rows.get(rows.size() - 1);
            int limit = rows.size() == 1 ? 11 : rows.get(0).size();
            if (token.startsWith(" ")) {
                continue;
            }
            if (token.matches("[0-9]+")) {
                boolean inRange = token.length() <= 2
                        && Integer.parseInt(token) >= 1 && Integer.parseInt(token) <= 11;
                if (number > 0 || !inRange) {
                    return m.start();
                }
                number = Integer.parseInt(token);
            } else if (token.matches("[a-f]")) {
                for (int i = 0; i < Math.max(1, number); i++) {
                    row.add(token.charAt(0) - 'a');
                }
                number = 0;
                if (row.size() > limit) {
                    return m.start();
                }
            } else if (token.equals("/")) {
                boolean whole = rows.size() == 1 ? row.size() >= 2 : row.size() == limit;
                if (number > 0 || !whole || rows.size() == 11) {
                    return m.start();
                }
                rows.add(new ArrayList<>());
            } else {
                return m.start();
            }
        }
        boolean whole = rows.get(rows.size() - 1).size() == rows.get(0).size();
        parsed = rows;
        return number == 0 && rows.size() >= 2 && whole ? NONE : text.length();
    }

    private List<List<Integer>> parsed;

    int load() {
        if (textFault() != NONE) {
            return BAD_STATE;
        }
        record();
        newMap(parsed.get(0).size() - 1, parsed.size() - 1);
        for (Spot c : corners()) {
            s.terrain.put(c, parsed.get(c.y).get(c.x));
        }
        return s.w * s.h;
    }

    int write() {
        List<String> rows = new ArrayList<>();
        for (int y = 0; y <= s.h; y++) {
            StringBuilder plain = new StringBuilder();
            for (int x = 0; x <= s.w; x++) {
                plain.append((char) ('a' + corner(x, y)));
            }
            rows.add(Pattern.compile("(.)\\1+").matcher(plain)
                    .replaceAll(r -> r.group().length() + r.group(1)));
        }
        written = String.join("/", rows);
        return written.length();
    }

    int written(int index) {
        return index < 0 || index >= written.length() ? BAD_INDEX : written.charAt(index);
    }

    long digest() {
        List<Integer> v = new ArrayList<>(Arrays.asList(s.w, s.h));
        for (Spot c : corners()) {
            v.add(s.terrain.get(c));
        }
        for (Spot c : cells()) {
            v.add(hasPath(c.x, c.y));
            v.add(pathTile(c.x, c.y));
            v.add(isStale(c.x, c.y));
            v.add(painted(c.x, c.y));
            for (Part p : paintedIn(c).parts()) {
                for (int what = 0; what < 4; what++) {
                    v.add(p.property(what));
                }
            }
        }
        v.add(touched());
        long h = 17;
        for (int n : v) {
            h = 31 * h + n;
        }
        return h;
    }
}
