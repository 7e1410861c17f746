/** Promises 20, 21, 24 and 25 again: ways, parts and pieces for very many sets, by the Reference. */
public final class TileSetsTest {
    /** Odd and no divisor of a power of 2, so that all bits of the sets vary. */
    private static final int STEP = 13;
    private static final Check check = new Check("TileSetsTest");

    public static void main(String[] args) {
        for (int mask = 1; mask < 15; mask++) {
            allSets(mask);
        }
        check.end();
    }

    /** A cell whose upper layer has this mask. */
    private static void allSets(int mask) {
        TerrainTiler x = new TerrainTiler();
        Reference r = new Reference();
        for (int bit = 0; bit < 4; bit++) {
            if ((mask >> bit & 1) == 1) {
                x.setCorner(bit % 2, bit / 2, 1);
                r.setCorner(bit % 2, bit / 2, 1);
            }
        }
        for (int set = mask; set < 65536; set += STEP) {
            x.setTiles(1, set);
            r.setTiles(1, set);
            String name = " of mask " + mask + " with set " + set;
            check.due("way" + name, x.way(1, mask), r.way(1, mask));
            check.due("parts" + name, x.parts(1, mask), r.parts(1, mask));
            check.due("pieces" + name, x.pieces(0, 0), r.pieces(0, 0));
            for (int i = 1; i <= r.parts(1, mask); i++) {
                check.due("tile" + name, x.piece(0, 0, i, 1), r.piece(0, 0, i, 1));
                check.due("way" + name, x.piece(0, 0, i, 2), r.piece(0, 0, i, 2));
            }
        }
    }
}
