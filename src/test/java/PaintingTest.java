/** Promises 26 to 34: what is painted, stale and touched cells, kinds, and undo. */
public final class PaintingTest {
    private static final int BAD_INDEX = TerrainTiler.BAD_INDEX, BAD_VALUE = TerrainTiler.BAD_VALUE;
    private static final int BAD_STATE = TerrainTiler.BAD_STATE;
    private static final int LOW = Integer.MIN_VALUE, HIGH = Integer.MAX_VALUE;
    private static final Check check = new Check("PaintingTest");

    public static void main(String[] args) {
        promise26();
        promise27();
        promise28();
        promise29();
        promise30();
        promise31();
        promise32();
        promise33();
        promise34();
        recording();
        undoneWhole();
        check.end();
    }

    private static void promise26() {
        TerrainTiler x = Check.loaded("abb/cdb");
        check.due("nothing yet", x.painted(0, 0), 0);
        x.paint();
        check.due("painted", x.painted(0, 0), 4);
        check.due("painted", x.painted(1, 0), 2);
        x.fill(0, 0, 2, 1, 0);
        check.due("still what it was", x.painted(0, 0), 4);
        x.paint();
        check.due("painted again", x.painted(0, 0), 1);
        x.load();
        check.due("a new map", x.painted(0, 0), 0);
        for (int bad : new int[] {LOW, -1, 2, HIGH}) {
            check.due("painted", x.painted(bad, 0), BAD_INDEX);
            check.due("painted", x.painted(0, bad), BAD_INDEX);
        }
    }

    private static void promise27() {
        TerrainTiler x = new TerrainTiler();
        check.due("isStale", x.isStale(0, 0), 1);
        x.paint();
        check.due("isStale", x.isStale(0, 0), 0);
        x.setPath(0, 0, true);
        check.due("a path tile is missing", x.isStale(0, 0), 1);
        check.due("touched, not stale", x.isStale(1, 1), 0);
        x.setPath(0, 0, false);
        check.due("as it was", x.isStale(0, 0), 0);
        x.setPath(0, 0, true);
        x.paint();
        x.setPath(1, 0, true);
        check.due("another path tile", x.isStale(0, 0), 1);
        x.paint();
        x.setPath(0, 0, false);
        check.due("a path tile too many", x.isStale(0, 0), 1);
        x.paint();
        x.fill(2, 2, 3, 3, 1);
        check.due("another piece", x.isStale(1, 1), 1);
        check.due("another terrain", x.isStale(2, 2), 1);
        check.due("not near", x.isStale(0, 0), 0);
        x.paint();
        x.setCorner(2, 2, 2);
        check.due("more pieces", x.isStale(2, 2), 1);
        x.setCorner(2, 2, 1);
        x.setTiles(1, 1 << 1);
        check.due("another way", x.isStale(1, 1), 1);
        check.due("the same tile", x.isStale(3, 3), 0);
        x.setTiles(1, 65535);
        check.due("as it was", x.stale(), 0);
        x.setVariants(1, 8);
        int stale = 0;
        for (int seed = 0; seed < 40; seed++) {
            x.setSeed(seed);
            check.due("by the variant", x.isStale(2, 2), x.piece(2, 2, 0, 3) != 0 ? 1 : 0);
            stale += x.isStale(2, 2);
        }
        check.holds("some seeds give another variant, some do not", stale > 0 && stale < 40);
        x.setVariants(1, 1);
        x.setRank(0, 1);
        check.due("another order", x.isStale(1, 1), 1);
        for (int bad : new int[] {LOW, -1, 4, HIGH}) {
            check.due("isStale", x.isStale(bad, 0), BAD_INDEX);
            check.due("isStale", x.isStale(0, bad), BAD_INDEX);
        }
    }

    private static void promise28() {
        TerrainTiler x = new TerrainTiler();
        x.begin(10, 9, 0);
        check.due("a new map", x.touched(), 90);
        x.paint();
        check.due("painted", x.touched(), 0);
        x.setCorner(10, 9, 1);
        check.due("a corner of the map", x.touched(), 1);
        x.setCorner(5, 0, 1);
        check.due("a side of the map", x.touched(), 3);
        x.setCorner(5, 5, 1);
        check.due("a corner within", x.touched(), 7);
        x.setPath(0, 0, true);
        check.due("a path at a corner", x.touched(), 11);
        x.setPath(0, 0, false);
        check.due("taken back, touched all the same", x.touched(), 11);
        x.begin(2, 2, 0);
        check.due("a smaller map", x.touched(), 4);
    }

    private static void promise29() {
        TerrainTiler x = new TerrainTiler();
        check.due("stale", x.stale(), 16);
        x.paintCell(2, 1);
        check.due("stale", x.stale(), 15);
        x.paint();
        check.due("stale", x.stale(), 0);
        x.setCorner(1, 1, 1);
        check.due("stale", x.stale(), 4);
        x.setCorner(1, 1, 0);
        check.due("stale", x.stale(), 0);
        check.due("touched", x.touched(), 4);
        x.setSeed(5);
        check.due("stale", x.stale(), 0);
        check.due("touched", x.touched(), 16);
    }

    private static void promise30() {
        TerrainTiler x = new TerrainTiler();
        check.due("paint", x.paint(), 16);
        check.due("paint nothing", x.paint(), 0);
        x.setCorner(0, 0, 1);
        x.setSeed(4);
        check.due("only stale ones are counted", x.paint(), 1);
        check.due("touched", x.touched(), 0);
        check.due("stale", x.stale(), 0);
        check.due("painted", x.painted(0, 0), 2);
        check.due("recorded", x.undo(), 4);
        check.due("touched again", x.touched(), 16);
        check.due("stale again", x.stale(), 1);
        check.due("painted as before", x.painted(0, 0), 1);
    }

    private static void promise31() {
        TerrainTiler x = new TerrainTiler();
        check.due("paintCell", x.paintCell(3, 3), 1);
        check.due("touched", x.touched(), 15);
        check.due("painted", x.painted(3, 3), 1);
        check.due("painted", x.painted(0, 0), 0);
        check.due("paintCell again", x.paintCell(3, 3), 0);
        x.setSeed(1);
        check.due("touched, not stale", x.paintCell(3, 3), 0);
        check.due("touched", x.touched(), 15);
        check.due("the rest", x.paint(), 15);
        check.due("recorded", x.undo(), 4);
        check.due("recorded", x.undo(), 3);
        check.due("touched", x.touched(), 16);
        long before = x.digest();
        for (int bad : new int[] {LOW, -1, 4, HIGH}) {
            check.refused("paintCell", x, before, x.paintCell(bad, 0), BAD_INDEX);
            check.refused("paintCell", x, before, x.paintCell(0, bad), BAD_INDEX);
        }
        check.due("errors are not recorded", x.undo(), 2);
    }

    private static void promise32() {
        TerrainTiler x = Check.loaded("aab/aab");
        check.due("nothing painted", x.kinds(), 0);
        x.paintCell(0, 0);
        check.due("kinds", x.kinds(), 1);
        x.paintCell(1, 0);
        check.due("kinds", x.kinds(), 2);
        x.setTiles(1, 1 << 1);
        check.due("what is painted counts", x.kinds(), 2);
        x.paint();
        check.due("kinds by ways", x.kinds(), 3);
        x.begin(10, 10, 2);
        x.setVariants(2, 8);
        x.paint();
        check.due("kinds by variants", x.kinds(), 8);
        x.begin(1, 1, 2);
        check.due("none in a new map", x.kinds(), 0);
    }

    private static void kind(TerrainTiler x, int kind, int... want) {
        for (int what = 0; what < 5; what++) {
            check.due("kind " + kind + ", " + what, x.kind(kind, what), want[what]);
        }
    }

    private static void promise33() {
        TerrainTiler x = Check.loaded("aab/aab/caa");
        x.paint();
        // the cells: a; a and b with 10; a and c with 4; a and b with 2
        check.due("kinds", x.kinds(), 4);
        kind(x, 0, 0, 15, 0, 0, 4);
        kind(x, 1, 1, 10, 0, 0, 1);
        kind(x, 2, 2, 4, 0, 0, 1);
        kind(x, 3, 1, 2, 0, 0, 1);
        x.setTiles(1, 1 << 1);
        x.paint();
        check.due("kinds", x.kinds(), 4);
        kind(x, 0, 0, 15, 0, 0, 4);
        kind(x, 1, 1, 1, 1, 0, 2);
        kind(x, 2, 1, 1, 3, 0, 1);
        kind(x, 3, 2, 4, 0, 0, 1);
        for (int bad : new int[] {LOW, -1, 4, HIGH}) {
            check.due("kind", x.kind(bad, 0), BAD_INDEX);
            check.due("kind", x.kind(bad, 5), BAD_INDEX);
        }
        for (int bad : new int[] {LOW, -1, 5, HIGH}) {
            check.due("kind", x.kind(3, bad), BAD_VALUE);
        }
        TerrainTiler corner = Check.loaded("ab/bb");
        corner.setRank(0, 1);
        corner.paint();
        check.due("kinds", corner.kinds(), 2);
        kind(corner, 0, 1, 15, 0, 0, 1);
        kind(corner, 1, 0, 1, 0, 0, 1);
        x.begin(3, 3, 0);
        check.due("no kinds", x.kind(0, 4), BAD_INDEX);
        x.setVariants(0, 4);
        x.setSeed(77);
        x.paint();
        int sum = 0;
        for (int i = 0; i < x.kinds(); i++) {
            sum += x.kind(i, 4);
            check.due("no way of a full tile", x.kind(i, 2), 0);
        }
        check.due("the first kind's variant", x.kind(0, 3), x.piece(0, 0, 0, 3));
        check.due("all pieces are counted", sum, 9);
    }

    private static void promise34() {
        TerrainTiler x = new TerrainTiler();
        check.due("undo", x.undo(), BAD_STATE);
        long[] digests = new long[8];
        for (int i = 1; i < 8; i++) {
            digests[i] = x.digest();
            x.setCorner(i % 5, 0, i % 5 + 1);
        }
        for (int i = 7; i > 2; i--) {
            check.due("undo", x.undo(), i - 3);
            check.due("digest", x.digest(), digests[i]);
        }
        check.due("the oldest ones are dropped", x.undo(), BAD_STATE);
        check.due("digest", x.digest(), digests[3]);
        x.setSeed(1);
        x.setSeed(1);
        check.due("undo", x.undo(), 1);
        check.due("undo", x.undo(), 0);
        Check.type(x, "ab/ba");
        x.write();
        x.load();
        x.type('x');
        check.due("undo", x.undo(), 0);
        check.due("the text stays", x.clearText(), 6);
        check.holds("what is written stays", x.written(0) != BAD_INDEX);
        check.due("the map is back", x.size(0), 4);
    }

    /** Each recorded method records once, each other one never; undo brings all settings back. */
    private static void recording() {
        TerrainTiler x = new TerrainTiler();
        x.setCorner(1, 1, 1);
        Check.type(x, "2a/2a");
        Check.drain(x);
        for (int call = 0; call < 17; call++) {
            long before = x.digest();
            record(x, call);
            check.due("undo after call " + call, x.undo(), 0);
            check.due("digest after call " + call, x.digest(), before);
            check.due("rank", x.rank(2), 2);
            check.due("way", x.way(2, 6), 0);
        }
        ask(x);
        check.due("others are not recorded", x.undo(), BAD_STATE);
        check.due("variants are back", x.setVariants(2, 1), 1);
        check.due("the seed is back", x.setSeed(0), 0);
        check.due("the border is back", x.setBorder(false), 0);
        check.due("paths are back", x.size(2), 0);
    }

    /** What depends on a restored setting or picture is restored with it. */
    private static void undoneWhole() {
        TerrainTiler x = Check.loaded("ab/bb");
        x.setRank(0, 1);
        x.undo();
        check.due("the lowest layer", x.layer(0, 0, 0, 0), 0);
        x.setTiles(1, 0);
        x.undo();
        check.due("pieces as before", x.piece(0, 0, 1, 1), 14);
        x.setTiles(1, 1 << 1);
        x.undo();
        check.due("parts as before", x.parts(1, 14), 1);
        x.setPath(0, 0, true);
        x.paint();
        x.setBorder(true);
        x.fill(0, 0, 1, 1, 3);
        x.setCorner(0, 0, 2);
        long before = x.digest();
        check.due("paint", x.paint(), 1);
        check.due("undo", x.undo(), 4);
        check.due("digest", x.digest(), before);
        x.undo();
        x.undo();
        x.undo();
        check.due("painted as it should be", x.stale(), 0);
        x.paintCell(0, 0);
        x.setPath(0, 0, false);
        x.paint();
        x.undo();
        x.undo();
        check.due("with its path tile", x.stale(), 0);
    }

    private static void record(TerrainTiler x, int call) {
        switch (call) {
            case 0 -> x.begin(2, 2, 2);
            case 1 -> x.setCorner(0, 0, 1);
            case 2 -> x.setCorner(0, 0, 0);
            case 3 -> x.fill(0, 0, 1, 1, 4);
            case 4 -> x.flood(0, 0, 3);
            case 5 -> x.raise(2, 2, 5);
            case 6 -> x.setPath(1, 1, true);
            case 7 -> x.setPath(1, 1, false);
            case 8 -> x.setRank(2, 5);
            case 9 -> x.setTiles(2, 0);
            case 10 -> x.setVariants(2, 7);
            case 11 -> x.setSeed(99);
            case 12 -> x.setBorder(true);
            case 13 -> x.paint();
            case 14 -> x.paintCell(0, 0);
            case 15 -> x.load();
            default -> x.setSeed(0);
        }
    }

    private static void ask(TerrainTiler x) {
        x.size(0);
        x.corner(0, 0);
        x.regions(0);
        x.hasPath(0, 0);
        x.pathMask(0, 0);
        x.pathTile(0, 0);
        x.rank(0);
        x.way(0, 1);
        x.parts(0, 1);
        x.layers(0, 0);
        x.layer(0, 0, 0, 0);
        x.pieces(0, 0);
        x.piece(0, 0, 0, 0);
        x.painted(0, 0);
        x.isStale(0, 0);
        x.touched();
        x.stale();
        x.kinds();
        x.kind(0, 0);
        x.type('a');
        x.textFault();
        x.clearText();
        x.write();
        x.written(0);
        x.digest();
    }
}
