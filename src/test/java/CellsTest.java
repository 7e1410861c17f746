/** Promises 22 to 25: the layers and the pieces that cells should have. */
public final class CellsTest {
    private static final int BAD_INDEX = TerrainTiler.BAD_INDEX, BAD_VALUE = TerrainTiler.BAD_VALUE;
    private static final int LOW = Integer.MIN_VALUE, HIGH = Integer.MAX_VALUE;
    private static final Check check = new Check("CellsTest");

    public static void main(String[] args) {
        promise22();
        promise23();
        promise24();
        promise25();
        variants();
        check.end();
    }

    private static void promise22() {
        TerrainTiler x = Check.loaded("abbf/cdba");
        check.due("four terrains", x.layers(0, 0), 4);
        check.due("two terrains", x.layers(1, 0), 2);
        check.due("three terrains", x.layers(2, 0), 3);
        check.due("one terrain", new TerrainTiler().layers(0, 0), 1);
        check.due("layers", x.layers(-1, 0), BAD_INDEX);
        check.due("layers", x.layers(3, 0), BAD_INDEX);
        check.due("layers", x.layers(0, 1), BAD_INDEX);
        check.due("layers", x.layers(LOW, HIGH), BAD_INDEX);
    }

    private static void layer(TerrainTiler x, int index, int terrain, int mask) {
        check.due("terrain of layer " + index, x.layer(0, 0, index, 0), terrain);
        check.due("mask of layer " + index, x.layer(0, 0, index, 1), mask);
    }

    private static void promise23() {
        TerrainTiler x = Check.loaded("da/cf");
        layer(x, 0, 0, 15);
        layer(x, 1, 2, 13);
        layer(x, 2, 3, 9);
        layer(x, 3, 5, 8);
        x.setRank(0, 4);
        layer(x, 0, 2, 15);
        layer(x, 1, 3, 11);
        layer(x, 2, 0, 10);
        layer(x, 3, 5, 8);
        for (int bad : new int[] {LOW, -1, 4, HIGH}) {
            check.due("layer", x.layer(0, 0, bad, 0), BAD_INDEX);
            check.due("layer", x.layer(0, 0, bad, 9), BAD_INDEX);
            check.due("layer", x.layer(bad, 0, 0, 0), BAD_INDEX);
            check.due("layer", x.layer(0, bad, 0, 9), BAD_INDEX);
        }
        for (int bad : new int[] {LOW, -1, 2, HIGH}) {
            check.due("layer", x.layer(0, 0, 3, bad), BAD_VALUE);
        }
        check.due("no third layer", Check.loaded("ab/ab").layer(0, 0, 2, 0), BAD_INDEX);
    }

    private static void promise24() {
        TerrainTiler x = Check.loaded("ab/cd");
        check.due("one each", x.pieces(0, 0), 4);
        for (int t = 0; t < 6; t++) {
            x.setTiles(t, 1 << 1);
        }
        check.due("corners alone", x.pieces(0, 0), 7);
        x.setTiles(2, 0);
        check.due("a full one instead", x.pieces(0, 0), 6);
        check.due("pieces", x.pieces(1, 0), BAD_INDEX);
        check.due("pieces", x.pieces(0, -1), BAD_INDEX);
        check.due("pieces", x.pieces(HIGH, LOW), BAD_INDEX);
    }

    private static void promise25() {
        TerrainTiler x = Check.loaded("ab/cd");
        for (int t = 0; t < 6; t++) {
            x.setTiles(t, 1 << 1);
        }
        int[][] due = {
            {0, 15, 0, 0}, {1, 1, 1, 0}, {1, 1, 2, 0}, {1, 1, 3, 0},
            {2, 1, 2, 0}, {2, 1, 3, 0}, {3, 1, 3, 0}
        };
        for (int i = 0; i < due.length; i++) {
            for (int what = 0; what < 4; what++) {
                check.due("piece " + i + ", " + what, x.piece(0, 0, i, what), due[i][what]);
            }
        }
        for (int bad : new int[] {LOW, -1, 7, HIGH}) {
            check.due("piece", x.piece(0, 0, bad, 0), BAD_INDEX);
            check.due("piece", x.piece(0, 0, bad, 9), BAD_INDEX);
            check.due("piece", x.piece(bad, 0, 0, 0), BAD_INDEX);
            check.due("piece", x.piece(0, bad, 0, 9), BAD_INDEX);
        }
        for (int bad : new int[] {LOW, -1, 4, HIGH}) {
            check.due("piece", x.piece(0, 0, 6, bad), BAD_VALUE);
        }
    }

    /** H of the document. */
    private static int hash(int seed, int x, int y, int terrain) {
        int h = seed;
        h = 31 * h + x;
        h = 31 * h + y;
        h = 31 * h + terrain;
        h = (h ^ (h >>> 15)) * 739982445;
        return (h ^ (h >>> 12)) >>> 1;
    }

    private static void variants() {
        TerrainTiler x = new TerrainTiler();
        for (int seed : new int[] {0, 1, -1, 77, LOW, HIGH, 123456789}) {
            for (int many = 1; many <= 8; many++) {
                x.begin(10, 10, 3);
                x.setSeed(seed);
                x.setVariants(3, many);
                for (int i = 0; i < 100; i++) {
                    int want = hash(seed, i % 10, i / 10, 3) % many;
                    check.due("variant", x.piece(i % 10, i / 10, 0, 3), want);
                }
            }
        }
        TerrainTiler y = Check.loaded("ab/bb");
        y.setSeed(9);
        y.setVariants(1, 8);
        check.due("no variant of other tiles", y.piece(0, 0, 1, 3), 0);
        y.setTiles(1, 0);
        check.due("a full tile instead", y.piece(0, 0, 1, 1), 15);
        check.due("and its variant", y.piece(0, 0, 1, 3), hash(9, 0, 0, 1) % 8);
        check.holds("the test's variant is not 0", hash(9, 0, 0, 1) % 8 != 0);
    }
}
