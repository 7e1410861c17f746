import java.math.BigInteger;
import java.util.TreeSet;

/** Promises 22 to 25: each sentence on layers, pieces and variants that names a boundary case. */
public final class CellsEdgesTest {
    private static final int BAD_INDEX = TerrainTiler.BAD_INDEX, BAD_VALUE = TerrainTiler.BAD_VALUE;
    private static final int LOW = Integer.MIN_VALUE, HIGH = Integer.MAX_VALUE;
    private static final int[] SEEDS = {0, 1, -1, 77, LOW, LOW + 1, HIGH, 123456789, -987654321};
    private static final Check check = new Check("CellsEdgesTest");

    public static void main(String[] args) {
        cornersOfACell();
        aLayerForEachTerrain();
        ascendingRanks();
        atLeastTheRank();
        firstMask();
        noSuchLayer();
        layerPropertyOutOfRange();
        piecesOfLayersInOrder();
        fewestAndMostPieces();
        noSuchPiece();
        piecePropertyOutOfRange();
        noVariantOfOtherTiles();
        variantOfAFullTileInstead();
        oneVariantAtFirst();
        variantsWithOverflow();
        eachNumberCounts();
        check.end();
    }

    private static void cornersOfACell() {
        check.says("The corners of cell (x, y) are, with their bits: 0: (x, y), 1: (x + 1, y), "
                + "2: (x, y + 1), 3: (x + 1, y + 1).");
        int[][] cells = {{0, 0}, {9, 0}, {0, 9}, {9, 9}, {4, 5}};
        for (int[] cell : cells) {
            for (int bit = 0; bit < 4; bit++) {
                TerrainTiler x = Check.begun(10, 10, 0);
                x.setCorner(cell[0] + bit % 2, cell[1] + bit / 2, 1);
                check.due("layers", x.layers(cell[0], cell[1]), 2);
                check.due("its bit", x.layer(cell[0], cell[1], 1, 1), 1 << bit);
            }
        }
        TerrainTiler one = Check.loaded("ab/cd");
        int[] masks = {15, 14, 12, 8};
        for (int i = 0; i < 4; i++) {
            check.due("the smallest map", one.layer(0, 0, i, 1), masks[i]);
        }
    }

    private static void aLayerForEachTerrain() {
        check.says("A cell has a layer for each terrain that one of its corners has");
        String[] texts = {"2f/2f", "af/fa", "af/ca", "af/cd"};
        for (int i = 0; i < 4; i++) {
            check.due("layers of " + texts[i], Check.loaded(texts[i]).layers(0, 0), i + 1);
        }
    }

    private static void layer(String what, TerrainTiler x, int index, int terrain, int mask) {
        check.due(what + ", terrain " + index, x.layer(0, 0, index, 0), terrain);
        check.due(what + ", mask " + index, x.layer(0, 0, index, 1), mask);
    }

    private static void ascendingRanks() {
        check.says("by ascending ranks of the terrains.");
        TerrainTiler x = Check.loaded("fc/ad");
        layer("as at first", x, 0, 0, 15);
        layer("as at first", x, 1, 2, 11);
        layer("as at first", x, 2, 3, 9);
        layer("as at first", x, 3, 5, 1);
        x.setRank(5, 0);
        x.setRank(0, 5);
        layer("turned round", x, 0, 5, 15);
        layer("turned round", x, 1, 2, 14);
        layer("turned round", x, 2, 3, 12);
        layer("turned round", x, 3, 0, 4);
        TerrainTiler all = Check.loaded("af/af");
        layer("the lowest and the highest", all, 0, 0, 15);
        layer("the lowest and the highest", all, 1, 5, 10);
    }

    private static void atLeastTheRank() {
        check.says("whose corner has a terrain with at least the rank of this one.");
        TerrainTiler x = Check.loaded("bc/cb");
        layer("equal ranks count", x, 0, 1, 15);
        layer("equal ranks count", x, 1, 2, 6);
        TerrainTiler y = Check.loaded("bd/ca");
        layer("higher ranks count", y, 0, 0, 15);
        layer("higher ranks count", y, 1, 1, 7);
        layer("higher ranks count", y, 2, 2, 6);
        layer("higher ranks count", y, 3, 3, 2);
    }

    private static void firstMask() {
        check.says("(So the first mask is 15.)");
        for (int t = 0; t < 6; t++) {
            TerrainTiler x = Check.begun(1, 1, t);
            layer("one terrain", x, 0, t, 15);
            x.setCorner(1, 1, (t + 1) % 6);
            check.due("two terrains", x.layer(0, 0, 0, 1), 15);
            x.setRank(t, 5 - t);
            check.due("in another order", x.layer(0, 0, 0, 1), 15);
        }
    }

    private static void noSuchLayer() {
        check.says("Returns the property; BAD_INDEX if there is no such cell or layer; BAD_VALUE if what "
                + "is out of range.");
        String[] texts = {"2f/2f", "af/fa", "af/ca", "af/cd"};
        for (int many = 1; many <= 4; many++) {
            TerrainTiler x = Check.loaded(texts[many - 1]);
            check.holds("the last layer", x.layer(0, 0, many - 1, 0) >= 0);
            for (int bad : new int[] {LOW, -2, -1, many, many + 1, HIGH}) {
                for (int what : new int[] {LOW, -1, 0, 1, 2, HIGH}) {
                    check.due("layer " + bad, x.layer(0, 0, bad, what), BAD_INDEX);
                }
            }
            check.due("no such cell", x.layer(1, 0, 0, 2), BAD_INDEX);
            check.due("no such cell", x.layer(0, -1, 9, -1), BAD_INDEX);
        }
    }

    private static void layerPropertyOutOfRange() {
        check.says("`what`: 0 its terrain, 1 its mask");
        TerrainTiler x = Check.loaded("2f/fa");
        check.due("its terrain", x.layer(0, 0, 1, 0), 5);
        check.due("its mask", x.layer(0, 0, 1, 1), 7);
        for (int bad : new int[] {LOW, -2, -1, 2, 3, HIGH}) {
            check.due("layer", x.layer(0, 0, 0, bad), BAD_VALUE);
            check.due("layer", x.layer(0, 0, 1, bad), BAD_VALUE);
        }
    }

    private static void piece(TerrainTiler x, int index, int... want) {
        for (int what = 0; what < 4; what++) {
            check.due("piece " + index + ", " + what, x.piece(0, 0, index, what), want[what]);
        }
    }

    private static void piecesOfLayersInOrder() {
        check.says("The pieces of a cell are those of its layers, in their order.");
        TerrainTiler x = Check.loaded("ad/cd");
        x.setTiles(2, 1 << 2);
        x.setTiles(3, 1 << 4);
        piece(x, 0, 0, 15, 0, 0);
        piece(x, 1, 2, 2, 0, 0);
        piece(x, 2, 2, 2, 3, 0);
        piece(x, 3, 2, 2, 2, 0);
        piece(x, 4, 3, 4, 3, 0);
        piece(x, 5, 3, 4, 1, 0);
        check.due("pieces", x.pieces(0, 0), 6);
        x.setRank(0, 5);
        // now c is below d, and d below a
        piece(x, 0, 2, 15, 0, 0);
        piece(x, 1, 3, 4, 2, 0);
        piece(x, 2, 3, 4, 3, 0);
        piece(x, 3, 3, 4, 1, 0);
        piece(x, 4, 0, 1, 0, 0);
        check.due("pieces", x.pieces(0, 0), 5);
    }

    private static void fewestAndMostPieces() {
        check.says("Returns the number of pieces that a cell should have.");
        check.due("the fewest", Check.begun(1, 1, 5).pieces(0, 0), 1);
        TerrainTiler x = Check.loaded("cd/ef");
        for (int t = 0; t < 6; t++) {
            x.setTiles(t, 1 << 8);
        }
        check.due("the most", x.pieces(0, 0), 7);
        for (int t = 0; t < 6; t++) {
            x.setTiles(t, 0);
        }
        check.due("full tiles alone", x.pieces(0, 0), 4);
    }

    private static void noSuchPiece() {
        check.says("BAD_INDEX if there is no such cell or piece; BAD_VALUE if what is out of range.");
        for (int t = 0; t < 2; t++) {
            TerrainTiler x = t == 0 ? Check.begun(1, 1, 0) : Check.loaded("cd/ef");
            for (int i = 0; i < 6; i++) {
                x.setTiles(i, 1 << 8);
            }
            int many = t == 0 ? 1 : 7;
            check.holds("the last piece", x.piece(0, 0, many - 1, 0) >= 0);
            for (int bad : new int[] {LOW, -2, -1, many, many + 1, HIGH}) {
                for (int what : new int[] {LOW, -1, 0, 3, 4, HIGH}) {
                    check.due("piece " + bad, x.piece(0, 0, bad, what), BAD_INDEX);
                }
            }
            check.due("no such cell", x.piece(1, 0, 0, 4), BAD_INDEX);
            check.due("no such cell", x.piece(0, -1, 9, -1), BAD_INDEX);
        }
    }

    private static void piecePropertyOutOfRange() {
        check.says("`what`: 0 its terrain, 1 its tile, 2 its way, 3 its variant");
        TerrainTiler x = Check.loaded("2f/fa");
        x.setTiles(5, 1 << 14);
        piece(x, 1, 5, 14, 3, 0);
        for (int bad : new int[] {LOW, -2, -1, 4, 5, HIGH}) {
            check.due("piece", x.piece(0, 0, 0, bad), BAD_VALUE);
            check.due("piece", x.piece(0, 0, 1, bad), BAD_VALUE);
        }
    }

    /** H mod many, in whole numbers that are cut to 32 bits by hand. */
    private static int variant(int seed, int x, int y, int terrain, int many) {
        BigInteger whole = BigInteger.ONE.shiftLeft(32);
        BigInteger h = BigInteger.valueOf(seed).mod(whole);
        for (int v : new int[] {x, y, terrain}) {
            h = h.multiply(BigInteger.valueOf(31)).add(BigInteger.valueOf(v)).mod(whole);
        }
        h = h.xor(h.shiftRight(15)).multiply(BigInteger.valueOf(739982445)).mod(whole);
        h = h.xor(h.shiftRight(12)).shiftRight(1);
        return h.mod(BigInteger.valueOf(many)).intValueExact();
    }

    private static void noVariantOfOtherTiles() {
        check.says("The variant of a piece is 0, unless its tile is 15");
        for (int seed : SEEDS) {
            TerrainTiler x = Check.loaded("ab/bb");
            x.setSeed(seed);
            x.setVariants(0, 8);
            x.setVariants(1, 8);
            check.due("the full one", x.piece(0, 0, 0, 3), variant(seed, 0, 0, 0, 8));
            check.due("one tile", x.piece(0, 0, 1, 3), 0);
            x.setTiles(1, 1 << 1 | 1 << 3);
            check.due("put together", x.piece(0, 0, 1, 3), 0);
            check.due("put together", x.piece(0, 0, 2, 3), 0);
        }
    }

    private static void variantOfAFullTileInstead() {
        check.says("unless its tile is 15; then it is H mod the number of variants of the terrain");
        TreeSet<Integer> met = new TreeSet<>();
        for (int seed : SEEDS) {
            TerrainTiler x = Check.loaded("ab/bb");
            x.setSeed(seed);
            x.setVariants(1, 8);
            x.setTiles(1, 0);
            check.due("its tile", x.piece(0, 0, 1, 1), 15);
            check.due("its way", x.piece(0, 0, 1, 2), 0);
            check.due("its variant", x.piece(0, 0, 1, 3), variant(seed, 0, 0, 1, 8));
            met.add(variant(seed, 0, 0, 1, 8));
        }
        check.holds("variants differ", met.size() > 1);
    }

    private static void oneVariantAtFirst() {
        check.says("the number of variants of the terrain, 1 to 8 (at first 1)");
        TerrainTiler x = Check.begun(10, 10, 5);
        x.setSeed(31);
        for (int i = 0; i < 100; i++) {
            check.due("at first", x.piece(i % 10, i / 10, 0, 3), 0);
        }
        for (int many = 1; many <= 8; many++) {
            TerrainTiler y = Check.begun(10, 10, 5);
            y.setVariants(5, many);
            TreeSet<Integer> met = new TreeSet<>();
            for (int i = 0; i < 100; i++) {
                met.add(y.piece(i % 10, i / 10, 0, 3));
            }
            check.due("how many variants occur", met.size(), many);
            check.due("the last one", met.last(), many - 1);
        }
    }

    private static void variantsWithOverflow() {
        check.says("with a seed (0 at first) in int arithmetic with overflow");
        for (int many = 1; many <= 8; many++) {
            TerrainTiler first = Check.begun(10, 10, 2);
            first.setVariants(2, many);
            check.due("seed 0 at first", first.piece(9, 9, 0, 3), variant(0, 9, 9, 2, many));
            for (int seed : SEEDS) {
                TerrainTiler x = Check.begun(10, 10, 4);
                x.setSeed(seed);
                x.setVariants(4, many);
                for (int i = 0; i < 100; i++) {
                    int want = variant(seed, i % 10, i / 10, 4, many);
                    check.due("variant with " + seed, x.piece(i % 10, i / 10, 0, 3), want);
                }
            }
        }
    }

    private static void eachNumberCounts() {
        check.says("where H is found like this for the cell (x, y) and the terrain t");
        for (int t = 0; t < 6; t++) {
            TerrainTiler x = Check.begun(3, 2, t);
            x.setVariants(t, 8);
            x.setVariants((t + 1) % 6, 3);
            x.setSeed(1000 + t);
            for (int i = 0; i < 6; i++) {
                int want = variant(1000 + t, i % 3, i / 3, t, 8);
                check.due("terrain " + t, x.piece(i % 3, i / 3, 0, 3), want);
            }
        }
    }
}
