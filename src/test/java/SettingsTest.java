/** Promises 14 to 21: ranks, tiles, variants, the seed, the border, ways and parts. */
public final class SettingsTest {
    private static final int BAD_INDEX = TerrainTiler.BAD_INDEX, BAD_VALUE = TerrainTiler.BAD_VALUE;
    private static final int NONE = TerrainTiler.NONE;
    private static final int LOW = Integer.MIN_VALUE, HIGH = Integer.MAX_VALUE;
    private static final int[] NO_TERRAIN = {LOW, -1, 6, HIGH};
    private static final Check check = new Check("SettingsTest");

    public static void main(String[] args) {
        promise14and15();
        promise16();
        promise17();
        promise18();
        promise19();
        promise20();
        promise21();
        partsOfPieces();
        check.end();
    }

    private static TerrainTiler painted() {
        TerrainTiler x = new TerrainTiler();
        x.paint();
        return x;
    }

    private static void ranks(TerrainTiler x, int... want) {
        for (int t = 0; t < 6; t++) {
            check.due("rank(" + t + ")", x.rank(t), want[t]);
        }
    }

    private static void promise14and15() {
        TerrainTiler x = painted();
        check.due("setRank up", x.setRank(1, 4), 1);
        ranks(x, 0, 4, 1, 2, 3, 5);
        check.due("touched", x.touched(), 16);
        check.due("setRank down", x.setRank(5, 0), 5);
        ranks(x, 1, 5, 2, 3, 4, 0);
        x.paint();
        check.due("setRank as it is", x.setRank(5, 0), 0);
        ranks(x, 1, 5, 2, 3, 4, 0);
        check.due("touched", x.touched(), 0);
        check.due("recorded without a change", x.undo(), 4);
        check.due("recorded", x.undo(), 3);
        check.due("recorded", x.undo(), 2);
        ranks(x, 0, 4, 1, 2, 3, 5);
        long before = x.digest();
        for (int bad : NO_TERRAIN) {
            check.refused("setRank", x, before, x.setRank(bad, 0), BAD_INDEX);
            check.refused("setRank", x, before, x.setRank(0, bad), BAD_VALUE);
            check.refused("setRank", x, before, x.setRank(bad, bad), BAD_INDEX);
            check.due("rank", x.rank(bad), BAD_INDEX);
        }
        ranks(x, 0, 4, 1, 2, 3, 5);
        check.due("errors are not recorded", x.undo(), 1);
    }

    private static void promise16() {
        TerrainTiler x = painted();
        check.due("setTiles", x.setTiles(3, 0), 65534);
        check.due("touched", x.touched(), 16);
        check.due("setTiles", x.setTiles(3, 7), 32768);
        check.due("setTiles", x.setTiles(3, 65535), 32774);
        check.due("another terrain's", x.setTiles(2, 65535), 65534);
        x.paint();
        check.due("differs in bits 0 and 15", x.setTiles(3, 32766), 65534);
        check.due("differs in bits 0 and 15", x.setTiles(3, 32767), 65534);
        check.due("touched", x.touched(), 0);
        check.due("setTiles", x.setTiles(3, 2), 65534);
        check.due("touched", x.touched(), 16);
        check.due("recorded", x.undo(), 4);
        check.due("way", x.way(3, 6), 0);
        check.due("touched", x.touched(), 0);
        long before = x.digest();
        for (int bad : new int[] {LOW, -1, 65536, HIGH}) {
            check.refused("setTiles", x, before, x.setTiles(0, bad), BAD_VALUE);
            check.refused("setTiles", x, before, x.setTiles(6, bad), BAD_INDEX);
        }
        for (int bad : NO_TERRAIN) {
            check.refused("setTiles", x, before, x.setTiles(bad, 0), BAD_INDEX);
        }
        check.due("errors are not recorded", x.undo(), 3);
    }

    private static void promise17() {
        TerrainTiler x = painted();
        check.due("setVariants", x.setVariants(0, 8), 1);
        check.due("touched", x.touched(), 16);
        check.due("setVariants", x.setVariants(0, 3), 8);
        check.due("setVariants", x.setVariants(5, 2), 1);
        x.paint();
        check.due("setVariants as it is", x.setVariants(0, 3), 3);
        check.due("touched", x.touched(), 0);
        check.due("recorded without a change", x.undo(), 4);
        x.setVariants(1, 4);
        check.due("undo", x.undo(), 4);
        check.due("recorded", x.setVariants(1, 1), 1);
        long before = x.digest();
        for (int bad : new int[] {LOW, -1, 0, 9, HIGH}) {
            check.refused("setVariants", x, before, x.setVariants(0, bad), BAD_VALUE);
            check.refused("setVariants", x, before, x.setVariants(-1, bad), BAD_INDEX);
        }
        for (int bad : NO_TERRAIN) {
            check.refused("setVariants", x, before, x.setVariants(bad, 2), BAD_INDEX);
        }
        check.due("the number stays", x.setVariants(0, 1), 3);
    }

    private static void promise18() {
        TerrainTiler x = painted();
        check.due("setSeed as it is", x.setSeed(0), 0);
        check.due("touched", x.touched(), 0);
        check.due("setSeed", x.setSeed(LOW), 1);
        check.due("touched", x.touched(), 16);
        check.due("stale, with one variant", x.stale(), 0);
        check.due("setSeed", x.setSeed(LOW), 0);
        check.due("setSeed", x.setSeed(HIGH), 1);
        check.due("setSeed", x.setSeed(-1), 1);
        check.due("recorded", x.undo(), 4);
        check.due("undone", x.setSeed(HIGH), 0);
        check.due("recorded without a change", x.undo(), 4);
        check.due("undo", x.undo(), 3);
        check.due("undone", x.setSeed(LOW), 0);
    }

    private static void promise19() {
        TerrainTiler x = painted();
        check.due("setBorder as it is", x.setBorder(false), 0);
        check.due("touched", x.touched(), 0);
        check.due("setBorder", x.setBorder(true), 0);
        check.due("touched", x.touched(), 16);
        check.due("stale, without paths", x.stale(), 0);
        check.due("setBorder", x.setBorder(true), 1);
        x.setPath(0, 0, true);
        check.due("pathMask", x.pathMask(0, 0), 193);
        check.due("setBorder", x.setBorder(false), 1);
        check.due("pathMask", x.pathMask(0, 0), 0);
        check.due("recorded", x.undo(), 4);
        check.due("pathMask", x.pathMask(0, 0), 193);
    }

    private static void promise20() {
        TerrainTiler x = new TerrainTiler();
        x.setTiles(2, 1 << 1 | 1 << 3 | 1 << 9);
        int[] ways = {0, 1, 0, 2, NONE, 1, NONE, 3, 0, NONE, NONE, 2, NONE, NONE, 0};
        for (int mask = 1; mask <= 15; mask++) {
            check.due("way(2, " + mask + ")", x.way(2, mask), ways[mask - 1]);
        }
        x.setTiles(2, 1 << 2 | 1 << 4 | 1 << 5 | 1 << 14);
        int[] others = {1, 0, NONE, 0, 0, NONE, 3, 1, NONE, 1, 2, NONE, 1, 0, 0};
        for (int mask = 1; mask <= 15; mask++) {
            check.due("way(2, " + mask + ")", x.way(2, mask), others[mask - 1]);
        }
        check.due("another terrain's", x.way(1, 6), 0);
        for (int bad : new int[] {LOW, -1, 0, 16, HIGH}) {
            check.due("way", x.way(2, bad), BAD_VALUE);
            check.due("way", x.way(6, bad), BAD_INDEX);
        }
        for (int bad : NO_TERRAIN) {
            check.due("way", x.way(bad, 1), BAD_INDEX);
        }
        check.due("not recorded", Check.drain(x), 2);
    }

    private static void promise21() {
        TerrainTiler x = new TerrainTiler();
        x.setTiles(4, 1 << 1);
        for (int mask = 1; mask < 15; mask++) {
            check.due("singles", x.parts(4, mask), Integer.bitCount(mask));
        }
        check.due("the full one", x.parts(4, 15), 1);
        x.setTiles(4, 1 << 1 | 1 << 3);
        check.due("a side and a corner", x.parts(4, 7), 2);
        check.due("a diagonal", x.parts(4, 6), 2);
        x.setTiles(4, 1 << 3);
        check.due("two corners alone cannot be put together", x.parts(4, 6), 1);
        check.due("no corner", x.parts(4, 8), 1);
        x.setTiles(4, 0);
        check.due("nothing", x.parts(4, 7), 1);
        check.due("another terrain's", x.parts(3, 7), 1);
        for (int bad : new int[] {LOW, -1, 0, 16, HIGH}) {
            check.due("parts", x.parts(2, bad), BAD_VALUE);
            check.due("parts", x.parts(6, bad), BAD_INDEX);
        }
        for (int bad : NO_TERRAIN) {
            check.due("parts", x.parts(bad, 1), BAD_INDEX);
        }
        check.due("not recorded", Check.drain(x), 4);
    }

    /** The lowest of several sets with equally many masks, and the ways of its masks. */
    private static void partsOfPieces() {
        TerrainTiler x = Check.loaded("2b/ba");
        x.setTiles(1, 1 << 1 | 1 << 3 | 1 << 5 | 1 << 6);
        // mask 7: {1, 6}, {2, 5}, {3, 4}, {3, 5}, .. are possible
        check.due("pieces", x.pieces(0, 0), 3);
        piece(x, 1, 1, 1, 0, 0);
        piece(x, 2, 1, 6, 0, 0);
        x.setTiles(1, 1 << 1 | 1 << 3 | 1 << 5);
        check.due("pieces", x.pieces(0, 0), 3);
        piece(x, 1, 1, 1, 1, 0);
        piece(x, 2, 1, 5, 0, 0);
        x.setTiles(1, 1 << 3 | 1 << 5);
        check.due("pieces", x.pieces(0, 0), 3);
        piece(x, 1, 1, 3, 0, 0);
        piece(x, 2, 1, 5, 0, 0);
        x.setTiles(1, 1 << 8);
        check.due("pieces", x.pieces(0, 0), 4);
        piece(x, 1, 1, 8, 3, 0);
        piece(x, 2, 1, 8, 2, 0);
        piece(x, 3, 1, 8, 1, 0);
        x.setTiles(1, 1 << 10);
        check.due("pieces", x.pieces(0, 0), 2);
        piece(x, 1, 1, 15, 0, 0);
    }

    private static void piece(TerrainTiler x, int index, int... want) {
        for (int what = 0; what < 4; what++) {
            check.due("piece " + index + ", " + what, x.piece(0, 0, index, what), want[what]);
        }
    }
}
