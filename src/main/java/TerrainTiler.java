/**
 * An automatic tiler for terrain maps: terrains at the corners of cells, layers of tiles in an
 * order of ranks, path masks, and a record of which cells a change touches.
 *
 * <p>All rows are made with the object and used again: no call makes an object.
 */
public final class TerrainTiler {
    public static final int NONE = -1, BAD_INDEX = -2, BAD_VALUE = -3, BAD_STATE = -4, FULL = -5;

    private static final int TERRAINS = 6;
    private static final int LONGEST_SIDE = 10;
    private static final int CORNERS_IN_ROW = LONGEST_SIDE + 1;
    private static final int CELLS = LONGEST_SIDE * LONGEST_SIDE;
    private static final int CORNERS = CORNERS_IN_ROW * CORNERS_IN_ROW;
    private static final int CORNERS_OF_CELL = 4;
    private static final int FULL_MASK = 15;
    private static final int WAYS = 4;
    private static final int MOST_VARIANTS = 8;
    private static final int LARGEST_SET = 65535;
    private static final int LARGEST_BYTE = 255;

    /** The masks of a cell's layers lose a bit each, and a part has a bit of its own: 1 + 3 + 2 + 1. */
    private static final int MOST_PIECES = 7;

    private static final int PIECE_PROPERTIES = 4;

    /**
     * A piece is held as one number. The full tile has variants and no ways, all others have ways
     * and no variants: so 64 numbers a terrain are enough, and a table of all pieces stays small.
     */
    private static final int CODES_OF_TERRAIN = 64;
    private static final int CODES = TERRAINS * CODES_OF_TERRAIN;
    private static final int FIRST_FULL_CODE = CODES_OF_TERRAIN - MOST_VARIANTS;

    private static final int BLANK = ' ', SLASH = '/', ZERO = '0', NINE = '9', FIRST_LETTER = 'a';

    private final State now = new State();
    private final History history = new History();
    private final Region region = new Region();
    private final Sketch sketch = new Sketch();
    private final Tally tally = new Tally();
    private final Bytes text = new Bytes();
    private final Bytes output = new Bytes();
    private final MapReader reader = new MapReader();

    public TerrainTiler() {
        now.startMap(4, 4, 0);
    }

    // ---- the map

    public int begin(int w, int h, int terrain) {
        if (!isTerrain(terrain)) {
            return BAD_INDEX;
        }
        if (!isWithin(w, 1, LONGEST_SIDE) || !isWithin(h, 1, LONGEST_SIDE)) {
            return BAD_VALUE;
        }
        history.record(now);
        now.startMap(w, h, terrain);
        return w * h;
    }

    public int size(int what) {
        switch (what) {
            case 0:
                return now.land.w;
            case 1:
                return now.land.h;
            case 2:
                return now.land.countPaths();
            default:
                return BAD_VALUE;
        }
    }

    public int setCorner(int x, int y, int terrain) {
        if (!now.land.isCorner(x, y) || !isTerrain(terrain)) {
            return BAD_INDEX;
        }
        history.record(now);
        int before = now.land.terrainAt(x, y);
        now.changeCorner(x, y, terrain);
        return before;
    }

    public int corner(int x, int y) {
        return now.land.isCorner(x, y) ? now.land.terrainAt(x, y) : BAD_INDEX;
    }

    public int fill(int x, int y, int toX, int toY, int terrain) {
        if (!now.land.isCorner(x, y) || !now.land.isCorner(toX, toY) || !isTerrain(terrain)) {
            return BAD_INDEX;
        }
        history.record(now);
        return now.changeBlock(
                Math.min(x, toX), Math.min(y, toY), Math.max(x, toX), Math.max(y, toY), terrain);
    }

    public int flood(int x, int y, int terrain) {
        if (!now.land.isCorner(x, y) || !isTerrain(terrain)) {
            return BAD_INDEX;
        }
        history.record(now);
        region.forget();
        region.gather(now.land, x, y);
        int changed = 0;
        for (int i = 0; i < region.count; i++) {
            changed += now.changeCorner(region.columnOf(i), region.rowOf(i), terrain);
        }
        return changed;
    }

    public int raise(int x, int y, int terrain) {
        if (!now.land.isCorner(x, y) || !isTerrain(terrain)) {
            return BAD_INDEX;
        }
        history.record(now);
        int peak = now.rules.rankOf(terrain);
        int changed = 0;
        for (int row = 0; row <= now.land.h; row++) {
            for (int column = 0; column <= now.land.w; column++) {
                int far = Math.max(Math.abs(column - x), Math.abs(row - y));
                int had = now.rules.rankOf(now.land.terrainAt(column, row));
                int gets = Math.min(Math.max(had, peak - far), peak + far);
                changed += now.changeCorner(column, row, now.rules.terrainWithRank(gets));
            }
        }
        return changed;
    }

    public int regions(int terrain) {
        if (!isTerrain(terrain)) {
            return BAD_INDEX;
        }
        region.forget();
        int found = 0;
        for (int y = 0; y <= now.land.h; y++) {
            for (int x = 0; x <= now.land.w; x++) {
                if (now.land.terrainAt(x, y) == terrain && !region.knows(x, y)) {
                    region.gather(now.land, x, y);
                    found++;
                }
            }
        }
        return found;
    }

    public int setPath(int x, int y, boolean on) {
        if (!now.land.isCell(x, y)) {
            return BAD_INDEX;
        }
        history.record(now);
        int before = now.land.pathAt(x, y);
        now.changePath(x, y, on ? 1 : 0);
        return before;
    }

    public int hasPath(int x, int y) {
        return now.land.isCell(x, y) ? now.land.pathAt(x, y) : BAD_INDEX;
    }

    public int pathMask(int x, int y) {
        if (!now.land.isCell(x, y)) {
            return BAD_INDEX;
        }
        return now.land.pathAt(x, y) == 1 ? now.land.pathMaskAt(x, y, now.rules.border) : NONE;
    }

    public int pathTile(int x, int y) {
        return now.land.isCell(x, y) ? now.land.pathTileAt(x, y, now.rules.border) : BAD_INDEX;
    }

    // ---- settings

    public int setRank(int terrain, int rank) {
        if (!isTerrain(terrain)) {
            return BAD_INDEX;
        }
        if (!isWithin(rank, 0, TERRAINS - 1)) {
            return BAD_VALUE;
        }
        history.record(now);
        int before = now.rules.rankOf(terrain);
        now.rules.moveTo(terrain, rank);
        touchAllIf(before != rank);
        return before;
    }

    public int rank(int terrain) {
        return isTerrain(terrain) ? now.rules.rankOf(terrain) : BAD_INDEX;
    }

    public int setTiles(int terrain, int set) {
        if (!isTerrain(terrain)) {
            return BAD_INDEX;
        }
        if (!isWithin(set, 0, LARGEST_SET)) {
            return BAD_VALUE;
        }
        history.record(now);
        int before = now.rules.tiles.setOf(terrain);
        now.rules.tiles.choose(terrain, set);
        touchAllIf(before != now.rules.tiles.setOf(terrain));
        return before;
    }

    public int setVariants(int terrain, int many) {
        if (!isTerrain(terrain)) {
            return BAD_INDEX;
        }
        if (!isWithin(many, 1, MOST_VARIANTS)) {
            return BAD_VALUE;
        }
        history.record(now);
        int before = now.rules.variants[terrain];
        now.rules.variants[terrain] = many;
        touchAllIf(before != many);
        return before;
    }

    public int setSeed(int seed) {
        history.record(now);
        boolean differs = now.rules.seed != seed;
        now.rules.seed = seed;
        touchAllIf(differs);
        return differs ? 1 : 0;
    }

    public int setBorder(boolean on) {
        history.record(now);
        boolean before = now.rules.border;
        now.rules.border = on;
        touchAllIf(before != on);
        return before ? 1 : 0;
    }

    public int way(int terrain, int mask) {
        if (!isTerrain(terrain)) {
            return BAD_INDEX;
        }
        return isWithin(mask, 1, FULL_MASK) ? now.rules.tiles.wayOf(terrain, mask) : BAD_VALUE;
    }

    public int parts(int terrain, int mask) {
        if (!isTerrain(terrain)) {
            return BAD_INDEX;
        }
        return isWithin(mask, 1, FULL_MASK)
                ? Integer.bitCount(now.rules.tiles.partsOf(terrain, mask))
                : BAD_VALUE;
    }

    // ---- what cells should be

    public int layers(int x, int y) {
        if (!now.land.isCell(x, y)) {
            return BAD_INDEX;
        }
        sketch.draw(now, x, y);
        return sketch.layerCount;
    }

    public int layer(int x, int y, int layer, int what) {
        if (!now.land.isCell(x, y)) {
            return BAD_INDEX;
        }
        sketch.draw(now, x, y);
        if (layer < 0 || layer >= sketch.layerCount) {
            return BAD_INDEX;
        }
        switch (what) {
            case 0:
                return sketch.layerTerrains[layer];
            case 1:
                return sketch.layerMasks[layer];
            default:
                return BAD_VALUE;
        }
    }

    public int pieces(int x, int y) {
        if (!now.land.isCell(x, y)) {
            return BAD_INDEX;
        }
        sketch.draw(now, x, y);
        return sketch.pieceCount;
    }

    public int piece(int x, int y, int piece, int what) {
        if (!now.land.isCell(x, y)) {
            return BAD_INDEX;
        }
        sketch.draw(now, x, y);
        if (piece < 0 || piece >= sketch.pieceCount) {
            return BAD_INDEX;
        }
        return propertyOfPiece(sketch.pieceCodes[piece], what);
    }

    // ---- painting

    public int painted(int x, int y) {
        return now.land.isCell(x, y) ? now.canvas.pieceCounts[cellIndex(x, y)] : BAD_INDEX;
    }

    public int isStale(int x, int y) {
        return now.land.isCell(x, y) ? staleAt(x, y) : BAD_INDEX;
    }

    public int touched() {
        int found = 0;
        for (int y = 0; y < now.land.h; y++) {
            for (int x = 0; x < now.land.w; x++) {
                found += now.canvas.touches[cellIndex(x, y)];
            }
        }
        return found;
    }

    public int stale() {
        int found = 0;
        for (int y = 0; y < now.land.h; y++) {
            for (int x = 0; x < now.land.w; x++) {
                found += staleAt(x, y);
            }
        }
        return found;
    }

    public int paint() {
        history.record(now);
        int renewed = 0;
        for (int y = 0; y < now.land.h; y++) {
            for (int x = 0; x < now.land.w; x++) {
                if (now.canvas.touches[cellIndex(x, y)] == 1) {
                    renewed += renew(x, y);
                }
            }
        }
        return renewed;
    }

    public int paintCell(int x, int y) {
        if (!now.land.isCell(x, y)) {
            return BAD_INDEX;
        }
        history.record(now);
        return renew(x, y);
    }

    public int kinds() {
        tally.take(now);
        return tally.count;
    }

    public int kind(int kind, int what) {
        tally.take(now);
        if (kind < 0 || kind >= tally.count) {
            return BAD_INDEX;
        }
        return what == 4 ? tally.sums[kind] : propertyOfPiece(tally.codes[kind], what);
    }

    public int undo() {
        if (history.count == 0) {
            return BAD_STATE;
        }
        history.restore(now);
        return history.count;
    }

    // ---- text

    public int type(int code) {
        if (!isWithin(code, 0, LARGEST_BYTE)) {
            return BAD_VALUE;
        }
        if (text.length >= Bytes.ROOM) {
            return FULL;
        }
        text.append(code);
        return text.length;
    }

    public int clearText() {
        int before = text.length;
        text.length = 0;
        return before;
    }

    public int textFault() {
        return reader.faultOf(text);
    }

    public int load() {
        if (reader.faultOf(text) != NONE) {
            return BAD_STATE;
        }
        history.record(now);
        now.startMap(reader.rowLength - 1, reader.row, 0);
        System.arraycopy(reader.terrains, 0, now.land.terrains, 0, CORNERS);
        return now.land.w * now.land.h;
    }

    public int write() {
        output.length = 0;
        for (int y = 0; y <= now.land.h; y++) {
            if (y > 0) {
                output.append(SLASH);
            }
            writeRow(y);
        }
        return output.length;
    }

    public int written(int index) {
        return index >= 0 && index < output.length ? output.codes[index] : BAD_INDEX;
    }

    public long digest() {
        long hash = mix(mix(17, now.land.w), now.land.h);
        for (int y = 0; y <= now.land.h; y++) {
            for (int x = 0; x <= now.land.w; x++) {
                hash = mix(hash, now.land.terrainAt(x, y));
            }
        }
        for (int y = 0; y < now.land.h; y++) {
            for (int x = 0; x < now.land.w; x++) {
                hash = mixCell(hash, x, y);
            }
        }
        return mix(hash, touched());
    }

    // ---- what the methods share

    private static boolean isWithin(int value, int least, int most) {
        return value >= least && value <= most;
    }

    private static boolean isTerrain(int terrain) {
        return isWithin(terrain, 0, TERRAINS - 1);
    }

    /** The rows of all maps are equally long inside, so that a copy needs no regard to w. */
    private static int cellIndex(int x, int y) {
        return y * LONGEST_SIDE + x;
    }

    private static int cornerIndex(int x, int y) {
        return y * CORNERS_IN_ROW + x;
    }

    private static long mix(long hash, int value) {
        return 31 * hash + value;
    }

    private static int codeOfPiece(int terrain, int tile, int turn, int variant) {
        int within = tile == FULL_MASK ? FIRST_FULL_CODE + variant : (tile - 1) * WAYS + turn;
        return terrain * CODES_OF_TERRAIN + within;
    }

    private static int propertyOfPiece(int code, int what) {
        int within = code % CODES_OF_TERRAIN;
        boolean full = within >= FIRST_FULL_CODE;
        switch (what) {
            case 0:
                return code / CODES_OF_TERRAIN;
            case 1:
                return full ? FULL_MASK : within / WAYS + 1;
            case 2:
                return full ? 0 : within % WAYS;
            case 3:
                return full ? within - FIRST_FULL_CODE : 0;
            default:
                return BAD_VALUE;
        }
    }

    private void touchAllIf(boolean changed) {
        if (changed) {
            now.touchAll();
        }
    }

    private int staleAt(int x, int y) {
        sketch.draw(now, x, y);
        return now.canvas.shows(cellIndex(x, y), sketch) ? 0 : 1;
    }

    private int renew(int x, int y) {
        int cell = cellIndex(x, y);
        sketch.draw(now, x, y);
        boolean wasStale = !now.canvas.shows(cell, sketch);
        now.canvas.take(cell, sketch);
        now.canvas.touches[cell] = 0;
        return wasStale ? 1 : 0;
    }

    private void writeRow(int y) {
        int many = 0;
        for (int x = 0; x <= now.land.w; x++) {
            int terrain = now.land.terrainAt(x, y);
            many++;
            if (x == now.land.w || now.land.terrainAt(x + 1, y) != terrain) {
                writeItem(many, terrain);
                many = 0;
            }
        }
    }

    private void writeItem(int many, int terrain) {
        if (many >= 10) {
            output.append(ZERO + many / 10);
        }
        if (many > 1) {
            output.append(ZERO + many % 10);
        }
        output.append(FIRST_LETTER + terrain);
    }

    private long mixCell(long before, int x, int y) {
        int cell = cellIndex(x, y);
        sketch.draw(now, x, y);
        long hash = mix(before, now.land.pathAt(x, y));
        hash = mix(hash, sketch.tileOfPath);
        hash = mix(hash, now.canvas.shows(cell, sketch) ? 0 : 1);
        hash = mix(hash, now.canvas.pieceCounts[cell]);
        for (int i = 0; i < now.canvas.pieceCounts[cell]; i++) {
            int code = now.canvas.codeAt(cell, i);
            for (int what = 0; what < PIECE_PROPERTIES; what++) {
                hash = mix(hash, propertyOfPiece(code, what));
            }
        }
        return hash;
    }

    /** The terrains of the corners, and which cells have a path. */
    private static final class Land {
        private static final int NEIGHBOURS = 8, SIDES = 0x55;
        private static final int[] ASIDE = {0, 1, 1, 1, 0, -1, -1, -1};
        private static final int[] DOWN = {-1, -1, 0, 1, 1, 1, 0, -1};

        /** All masks whose odd bits stand between two even ones; the place of one is its path tile. */
        private static final int[] PATH_MASKS = {
            0, 1, 4, 5, 7, 16, 17, 20, 21, 23, 28, 29, 31, 64, 65, 68,
            69, 71, 80, 81, 84, 85, 87, 92, 93, 95, 112, 113, 116, 117, 119, 124,
            125, 127, 193, 197, 199, 209, 213, 215, 221, 223, 241, 245, 247, 253, 255
        };

        private int w;
        private int h;
        private final int[] terrains = new int[CORNERS];
        private final int[] paths = new int[CELLS];

        void copyFrom(Land other) {
            w = other.w;
            h = other.h;
            System.arraycopy(other.terrains, 0, terrains, 0, CORNERS);
            System.arraycopy(other.paths, 0, paths, 0, CELLS);
        }

        boolean isCell(int x, int y) {
            return x >= 0 && x < w && y >= 0 && y < h;
        }

        boolean isCorner(int x, int y) {
            return x >= 0 && x <= w && y >= 0 && y <= h;
        }

        int terrainAt(int x, int y) {
            return terrains[cornerIndex(x, y)];
        }

        int pathAt(int x, int y) {
            return paths[cellIndex(x, y)];
        }

        int countPaths() {
            int found = 0;
            for (int y = 0; y < h; y++) {
                for (int x = 0; x < w; x++) {
                    found += pathAt(x, y);
                }
            }
            return found;
        }

        int pathMaskAt(int x, int y, boolean border) {
            int near = 0;
            for (int bit = 0; bit < NEIGHBOURS; bit++) {
                if (leadsTo(x + ASIDE[bit], y + DOWN[bit], border)) {
                    near |= 1 << bit;
                }
            }
            int mask = near & SIDES;
            for (int bit = 1; bit < NEIGHBOURS; bit += 2) {
                int beside = 1 << (bit - 1) | 1 << (bit + 1) % NEIGHBOURS;
                if ((near & beside) == beside) {
                    mask |= near & 1 << bit;
                }
            }
            return mask;
        }

        int pathTileAt(int x, int y, boolean border) {
            if (pathAt(x, y) == 0) {
                return NONE;
            }
            int mask = pathMaskAt(x, y, border);
            int less = 0;
            for (int i = 0; i < PATH_MASKS.length; i++) {
                if (PATH_MASKS[i] < mask) {
                    less++;
                }
            }
            return less;
        }

        private boolean leadsTo(int x, int y, boolean border) {
            return isCell(x, y) ? paths[cellIndex(x, y)] == 1 : border;
        }
    }

    /** The settings. */
    private static final class Rules {
        private final int[] ranks = new int[TERRAINS];
        private final int[] byRank = new int[TERRAINS];
        private final int[] variants = new int[TERRAINS];
        private final Tiles tiles = new Tiles();
        private int seed;
        private boolean border;

        Rules() {
            for (int terrain = 0; terrain < TERRAINS; terrain++) {
                place(terrain, terrain);
                variants[terrain] = 1;
            }
        }

        void copyFrom(Rules other) {
            System.arraycopy(other.ranks, 0, ranks, 0, TERRAINS);
            System.arraycopy(other.byRank, 0, byRank, 0, TERRAINS);
            System.arraycopy(other.variants, 0, variants, 0, TERRAINS);
            tiles.copyFrom(other.tiles);
            seed = other.seed;
            border = other.border;
        }

        int rankOf(int terrain) {
            return ranks[terrain];
        }

        int terrainWithRank(int rank) {
            return byRank[rank];
        }

        void moveTo(int terrain, int rank) {
            int from = ranks[terrain];
            for (int r = from; r < rank; r++) {
                place(byRank[r + 1], r);
            }
            for (int r = from; r > rank; r--) {
                place(byRank[r - 1], r);
            }
            place(terrain, rank);
        }

        int variantOf(int terrain, int x, int y) {
            int many = variants[terrain];
            if (many <= 1) {
                return 0;
            }
            int hash = 31 * (31 * (31 * seed + x) + y) + terrain;
            hash = (hash ^ (hash >>> 15)) * 739982445;
            return ((hash ^ (hash >>> 12)) >>> 1) % many;
        }

        private void place(int terrain, int rank) {
            ranks[terrain] = rank;
            byRank[rank] = terrain;
        }
    }

    /** For which masks each terrain has tiles, and with which parts its masks are drawn. */
    private static final class Tiles {
        private static final int MASKS = FULL_MASK + 1;
        private static final int FULL_TILE = 1 << FULL_MASK;
        private final int[] sets = new int[TERRAINS];

        /** As a set of masks each: found when the tiles are chosen, as every cell asks for them. */
        private final int[] partSets = new int[TERRAINS * MASKS];

        Tiles() {
            for (int terrain = 0; terrain < TERRAINS; terrain++) {
                sets[terrain] = LARGEST_SET & ~1;
                for (int mask = 1; mask < MASKS; mask++) {
                    partSets[terrain * MASKS + mask] = 1 << mask;
                }
            }
        }

        void copyFrom(Tiles other) {
            System.arraycopy(other.sets, 0, sets, 0, TERRAINS);
            System.arraycopy(other.partSets, 0, partSets, 0, TERRAINS * MASKS);
        }

        int setOf(int terrain) {
            return sets[terrain];
        }

        int partsOf(int terrain, int mask) {
            return partSets[terrain * MASKS + mask];
        }

        void choose(int terrain, int set) {
            sets[terrain] = set & ~1 | FULL_TILE;
            int drawable = 0;
            for (int mask = 1; mask < MASKS; mask++) {
                if (wayOf(terrain, mask) != NONE) {
                    drawable |= 1 << mask;
                }
            }
            for (int mask = 1; mask < MASKS; mask++) {
                partSets[terrain * MASKS + mask] = fewestParts(drawable, mask);
            }
        }

        int wayOf(int terrain, int mask) {
            for (int turn = 0; turn < WAYS; turn++) {
                if (has(sets[terrain], flip(mask, turn))) {
                    return turn;
                }
            }
            return NONE;
        }

        static boolean has(int set, int mask) {
            return (set >> mask & 1) == 1;
        }

        static int flip(int mask, int turn) {
            int flipped = mask;
            if ((turn & 1) != 0) {
                flipped = (flipped & 5) << 1 | (flipped & 10) >> 1;
            }
            if ((turn & 2) != 0) {
                flipped = (flipped & 3) << 2 | (flipped & 12) >> 2;
            }
            return flipped;
        }

        private static int fewestParts(int drawable, int mask) {
            for (int many = 1; many <= CORNERS_OF_CELL; many++) {
                int found = firstParts(drawable, mask, 1, 0, many);
                if (found != 0) {
                    return found;
                }
            }
            return FULL_TILE;
        }

        /** The first set of so many masks, none below least, that fills mask; 0 if there is none. */
        private static int firstParts(int drawable, int mask, int least, int covered, int many) {
            for (int part = least; part <= mask; part++) {
                if (!has(drawable, part) || (part & ~mask) != 0) {
                    continue;
                }
                int filled = covered | part;
                if (many > 1) {
                    int others = firstParts(drawable, mask, part + 1, filled, many - 1);
                    if (others != 0) {
                        return others | 1 << part;
                    }
                } else if (filled == mask) {
                    return 1 << part;
                }
            }
            return 0;
        }
    }

    /** What one cell should be. */
    private static final class Sketch {
        private final int[] cornerRanks = new int[CORNERS_OF_CELL];
        private final int[] layerTerrains = new int[CORNERS_OF_CELL];
        private final int[] layerMasks = new int[CORNERS_OF_CELL];
        private int layerCount;
        private final int[] pieceCodes = new int[MOST_PIECES];
        private int pieceCount;
        private int tileOfPath;

        void draw(State state, int x, int y) {
            drawLayers(state, x, y);
            pieceCount = 0;
            for (int i = 0; i < layerCount; i++) {
                drawPieces(state.rules, x, y, layerTerrains[i], layerMasks[i]);
            }
            tileOfPath = state.land.pathTileAt(x, y, state.rules.border);
        }

        private void drawLayers(State state, int x, int y) {
            for (int bit = 0; bit < CORNERS_OF_CELL; bit++) {
                int terrain = state.land.terrainAt(x + bit % 2, y + bit / 2);
                cornerRanks[bit] = state.rules.rankOf(terrain);
            }
            layerCount = 0;
            for (int rank = 0; rank < TERRAINS; rank++) {
                if (isRankOfCorner(rank) && layerCount < CORNERS_OF_CELL) {
                    layerTerrains[layerCount] = state.rules.terrainWithRank(rank);
                    layerMasks[layerCount] = maskFrom(rank);
                    layerCount++;
                }
            }
        }

        private boolean isRankOfCorner(int rank) {
            for (int bit = 0; bit < CORNERS_OF_CELL; bit++) {
                if (cornerRanks[bit] == rank) {
                    return true;
                }
            }
            return false;
        }

        private int maskFrom(int rank) {
            int mask = 0;
            for (int bit = 0; bit < CORNERS_OF_CELL; bit++) {
                if (cornerRanks[bit] >= rank) {
                    mask |= 1 << bit;
                }
            }
            return mask;
        }

        private void drawPieces(Rules rules, int x, int y, int terrain, int mask) {
            int parts = rules.tiles.partsOf(terrain, mask);
            for (int part = 1; part <= FULL_MASK; part++) {
                if (Tiles.has(parts, part) && pieceCount < MOST_PIECES) {
                    int turn = rules.tiles.wayOf(terrain, part);
                    int tile = Tiles.flip(part, turn);
                    int variant = tile == FULL_MASK ? rules.variantOf(terrain, x, y) : 0;
                    pieceCodes[pieceCount] = codeOfPiece(terrain, tile, turn, variant);
                    pieceCount++;
                }
            }
        }
    }

    /** What is painted in the cells, and which of them are touched. */
    private static final class Canvas {
        private final int[] pieceCounts = new int[CELLS];
        private final int[] pieceCodes = new int[CELLS * MOST_PIECES];
        private final int[] pathTiles = new int[CELLS];
        private final int[] touches = new int[CELLS];

        void copyFrom(Canvas other) {
            System.arraycopy(other.pieceCounts, 0, pieceCounts, 0, CELLS);
            System.arraycopy(other.pieceCodes, 0, pieceCodes, 0, CELLS * MOST_PIECES);
            System.arraycopy(other.pathTiles, 0, pathTiles, 0, CELLS);
            System.arraycopy(other.touches, 0, touches, 0, CELLS);
        }

        void wipe() {
            for (int cell = 0; cell < CELLS; cell++) {
                pieceCounts[cell] = 0;
                pathTiles[cell] = NONE;
                touches[cell] = 0;
            }
        }

        int codeAt(int cell, int index) {
            return pieceCodes[cell * MOST_PIECES + index];
        }

        boolean shows(int cell, Sketch sketch) {
            if (pieceCounts[cell] != sketch.pieceCount || pathTiles[cell] != sketch.tileOfPath) {
                return false;
            }
            for (int i = 0; i < sketch.pieceCount; i++) {
                if (codeAt(cell, i) != sketch.pieceCodes[i]) {
                    return false;
                }
            }
            return true;
        }

        void take(int cell, Sketch sketch) {
            pieceCounts[cell] = sketch.pieceCount;
            pathTiles[cell] = sketch.tileOfPath;
            System.arraycopy(
                    sketch.pieceCodes, 0, pieceCodes, cell * MOST_PIECES, sketch.pieceCount);
        }
    }

    /** All that the history keeps; its changes touch the cells that depend on them. */
    private static final class State {
        private final Land land = new Land();
        private final Rules rules = new Rules();
        private final Canvas canvas = new Canvas();

        void copyFrom(State other) {
            land.copyFrom(other.land);
            rules.copyFrom(other.rules);
            canvas.copyFrom(other.canvas);
        }

        void startMap(int w, int h, int terrain) {
            land.w = w;
            land.h = h;
            for (int i = 0; i < CORNERS; i++) {
                land.terrains[i] = terrain;
            }
            for (int i = 0; i < CELLS; i++) {
                land.paths[i] = 0;
            }
            canvas.wipe();
            touchAll();
        }

        /** Answers how many corners have changed: 0 or 1. */
        int changeCorner(int x, int y, int terrain) {
            if (land.terrainAt(x, y) == terrain) {
                return 0;
            }
            land.terrains[cornerIndex(x, y)] = terrain;
            touchBlock(x - 1, y - 1, x, y);
            return 1;
        }

        int changeBlock(int left, int top, int right, int bottom, int terrain) {
            int changed = 0;
            for (int y = top; y <= bottom; y++) {
                for (int x = left; x <= right; x++) {
                    changed += changeCorner(x, y, terrain);
                }
            }
            return changed;
        }

        void changePath(int x, int y, int path) {
            if (land.pathAt(x, y) != path) {
                land.paths[cellIndex(x, y)] = path;
                touchBlock(x - 1, y - 1, x + 1, y + 1);
            }
        }

        void touchAll() {
            touchBlock(0, 0, land.w - 1, land.h - 1);
        }

        /** A block may reach beyond the map. */
        private void touchBlock(int left, int top, int right, int bottom) {
            for (int y = top; y <= bottom; y++) {
                for (int x = left; x <= right; x++) {
                    if (land.isCell(x, y)) {
                        canvas.touches[cellIndex(x, y)] = 1;
                    }
                }
            }
        }
    }

    /** The latest states, in a ring, so that the place of the oldest one is used again. */
    private static final class History {
        private static final int ROOM = 5;
        private final State[] states = new State[ROOM];
        private int oldest;
        private int count;

        History() {
            for (int i = 0; i < ROOM; i++) {
                states[i] = new State();
            }
        }

        void record(State state) {
            State place = states[(oldest + count) % ROOM];
            if (place == null) {
                return;
            }
            place.copyFrom(state);
            if (count < ROOM) {
                count++;
            } else {
                oldest = (oldest + 1) % ROOM;
            }
        }

        void restore(State state) {
            if (count == 0) {
                return;
            }
            count--;
            State latest = states[(oldest + count) % ROOM];
            if (latest != null) {
                state.copyFrom(latest);
            }
        }
    }

    /** The corners that can be reached from one another; it knows all that it met since forget(). */
    private static final class Region {
        private final int[] met = new int[CORNERS];
        private final int[] found = new int[CORNERS];
        private int count;

        void forget() {
            for (int i = 0; i < CORNERS; i++) {
                met[i] = 0;
            }
        }

        boolean knows(int x, int y) {
            return met[cornerIndex(x, y)] == 1;
        }

        int columnOf(int index) {
            return found[index] % CORNERS_IN_ROW;
        }

        int rowOf(int index) {
            return found[index] / CORNERS_IN_ROW;
        }

        void gather(Land land, int x, int y) {
            count = 0;
            int terrain = land.terrainAt(x, y);
            meet(land, x, y, terrain);
            for (int i = 0; i < count && i < CORNERS; i++) {
                int column = columnOf(i);
                int row = rowOf(i);
                meet(land, column - 1, row, terrain);
                meet(land, column + 1, row, terrain);
                meet(land, column, row - 1, terrain);
                meet(land, column, row + 1, terrain);
            }
        }

        private void meet(Land land, int x, int y, int terrain) {
            if (!land.isCorner(x, y) || knows(x, y) || land.terrainAt(x, y) != terrain) {
                return;
            }
            if (count < CORNERS) {
                met[cornerIndex(x, y)] = 1;
                found[count] = cornerIndex(x, y);
                count++;
            }
        }
    }

    /** The kinds of painted pieces, in the order of their first pieces. */
    private static final class Tally {
        private final int[] codes = new int[CODES];
        private final int[] sums = new int[CODES];
        private final int[] places = new int[CODES];
        private int count;

        void take(State state) {
            count = 0;
            for (int code = 0; code < CODES; code++) {
                places[code] = NONE;
            }
            for (int y = 0; y < state.land.h; y++) {
                for (int x = 0; x < state.land.w; x++) {
                    addCell(state.canvas, cellIndex(x, y));
                }
            }
        }

        private void addCell(Canvas canvas, int cell) {
            for (int i = 0; i < canvas.pieceCounts[cell]; i++) {
                add(canvas.codeAt(cell, i));
            }
        }

        private void add(int code) {
            if (places[code] == NONE) {
                places[code] = count;
                codes[count] = code;
                sums[count] = 0;
                count++;
            }
            sums[places[code]]++;
        }
    }

    /** A text; what is written, at most 121 corners and 10 signs between rows, fits in as well. */
    private static final class Bytes {
        private static final int ROOM = 150;
        private final int[] codes = new int[ROOM];
        private int length;

        void append(int code) {
            if (length < ROOM) {
                codes[length] = code;
                length++;
            }
        }
    }

    /** Checks a text, and holds the corners of the map that it gives. */
    private static final class MapReader {
        private final int[] terrains = new int[CORNERS];
        private int row;
        private int column;
        private int rowLength;

        /** How many corners the next letter gives, as far as a number in front of it says so. */
        private int number;

        int faultOf(Bytes text) {
            row = 0;
            column = 0;
            rowLength = 0;
            number = 0;
            int at = 0;
            while (at < text.length) {
                int used = accept(text, at);
                if (used <= 0) {
                    return at;
                }
                at += used;
            }
            return number == 0 && row > 0 && isRowWhole() ? NONE : text.length;
        }

        /** Answers how many bytes have been read: none if the first one is not allowed there. */
        private int accept(Bytes text, int at) {
            int code = text.codes[at];
            if (code == BLANK) {
                return 1;
            }
            if (isDigit(code)) {
                return acceptNumber(text, at);
            }
            if (code == SLASH) {
                return acceptRowEnd();
            }
            return isTerrain(code - FIRST_LETTER) ? acceptLetter(code - FIRST_LETTER) : 0;
        }

        private int acceptNumber(Bytes text, int at) {
            if (number != 0) {
                return 0;
            }
            boolean two = at + 1 < text.length && isDigit(text.codes[at + 1]);
            boolean three = two && at + 2 < text.length && isDigit(text.codes[at + 2]);
            int value = text.codes[at] - ZERO;
            if (two) {
                value = 10 * value + text.codes[at + 1] - ZERO;
            }
            if (three || !isWithin(value, 1, CORNERS_IN_ROW)) {
                return 0;
            }
            number = value;
            return two ? 2 : 1;
        }

        private int acceptLetter(int terrain) {
            int end = column + Math.max(number, 1);
            if (end > (row == 0 ? CORNERS_IN_ROW : rowLength)) {
                return 0;
            }
            for (int x = column; x < end; x++) {
                terrains[cornerIndex(x, row)] = terrain;
            }
            column = end;
            number = 0;
            return 1;
        }

        private int acceptRowEnd() {
            if (number != 0 || !isRowWhole() || row >= LONGEST_SIDE) {
                return 0;
            }
            if (row == 0) {
                rowLength = column;
            }
            row++;
            column = 0;
            return 1;
        }

        private boolean isRowWhole() {
            return row == 0 ? column >= 2 : column == rowLength;
        }

        private static boolean isDigit(int code) {
            return isWithin(code, ZERO, NINE);
        }
    }
}
