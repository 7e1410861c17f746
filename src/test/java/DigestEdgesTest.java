import java.math.BigInteger;
import java.util.ArrayList;
import java.util.List;
import java.util.function.Consumer;
import java.util.function.Supplier;

/** Promise 41: each sentence on the hash of the state that names a boundary case. */
public final class DigestEdgesTest {
    private static final Check check = new Check("DigestEdgesTest");

    public static void main(String[] args) {
        smallestMaps();
        withOverflow();
        largestMap();
        cornersByRows();
        cellsInTheSameOrder();
        allPropertiesOfPieces();
        paintedNotDue();
        settingsAreSeenByCellsAlone();
        check.end();
    }

    /** The hash of these numbers, in whole numbers that are cut to 64 bits at the end. */
    private static long hash(List<Integer> numbers) {
        BigInteger h = BigInteger.valueOf(17);
        for (int v : numbers) {
            h = h.multiply(BigInteger.valueOf(31)).add(BigInteger.valueOf(v));
        }
        return h.longValue();
    }

    private static void digest(String what, TerrainTiler x, Integer... numbers) {
        check.due(what, x.digest(), hash(List.of(numbers)));
    }

    private static void smallestMaps() {
        check.says("Returns a hash of the state. It begins with h = 17");
        TerrainTiler x = Check.begun(1, 1, 0);
        digest("nothing painted", x, 1, 1, 0, 0, 0, 0, 0, -1, 1, 0, 1);
        x.paint();
        digest("painted", x, 1, 1, 0, 0, 0, 0, 0, -1, 0, 1, 0, 15, 0, 0, 0);
        x.setPath(0, 0, true);
        digest("a path", x, 1, 1, 0, 0, 0, 0, 1, 0, 1, 1, 0, 15, 0, 0, 1);
        x.setBorder(true);
        x.paint();
        digest("the border", x, 1, 1, 0, 0, 0, 0, 1, 46, 0, 1, 0, 15, 0, 0, 0);
        digest("a row", Check.begun(2, 1, 5), 2, 1, 5, 5, 5, 5, 5, 5, 0, -1, 1, 0, 0, -1, 1, 0, 2);
        digest("a column", Check.begun(1, 2, 5), 1, 2, 5, 5, 5, 5, 5, 5, 0, -1, 1, 0, 0, -1, 1, 0, 2);
    }

    /** The numbers of a map whose cells are painted as they should be, or not at all. */
    private static long hashOf(Supplier<TerrainTiler> recipe, boolean painted) {
        TerrainTiler corners = recipe.get();
        int w = corners.size(0);
        int h = corners.size(1);
        List<Integer> numbers = new ArrayList<>(List.of(w, h));
        for (int i = 0; i < (w + 1) * (h + 1); i++) {
            numbers.add(corners.corner(i % (w + 1), i / (w + 1)));
        }
        for (int i = 0; i < w * h; i++) {
            TerrainTiler x = recipe.get();
            int column = i % w;
            int row = i / w;
            numbers.add(x.hasPath(column, row));
            numbers.add(x.pathTile(column, row));
            numbers.add(painted ? 0 : 1);
            int pieces = painted ? x.pieces(column, row) : 0;
            numbers.add(pieces);
            for (int k = 0; k < 4 * pieces; k++) {
                numbers.add(x.piece(column, row, k / 4, k % 4));
            }
        }
        numbers.add(painted ? 0 : w * h);
        return hash(numbers);
    }

    private static TerrainTiler hilly(int w, int h, boolean painted) {
        TerrainTiler x = Check.begun(w, h, 0);
        x.raise(w / 2, h / 2, 5);
        x.raise(w, h, 3);
        x.setCorner(0, 0, 4);
        x.setPath(0, 0, true);
        x.setPath(w - 1, h - 1, true);
        x.setPath(w / 2, h / 2, true);
        x.setTiles(4, 2);
        x.setTiles(3, 0);
        x.setTiles(2, 1 << 3 | 1 << 9);
        x.setVariants(0, 8);
        x.setVariants(3, 5);
        x.setSeed(-4);
        if (painted) {
            x.paint();
        }
        return x;
    }

    private static void withOverflow() {
        check.says("h becomes 31 * h + v (long arithmetic, with overflow)");
        for (int w = 1; w <= 10; w++) {
            for (int h = 1; h <= 10; h++) {
                int columns = w;
                int rows = h;
                Supplier<TerrainTiler> bare = () -> hilly(columns, rows, false);
                check.due("digest, bare", bare.get().digest(), hashOf(bare, false));
            }
        }
    }

    private static void largestMap() {
        check.says("It begins with h = 17; for each of the following numbers v, in this order");
        for (int side = 1; side <= 10; side += 3) {
            int w = side;
            Supplier<TerrainTiler> painted = () -> hilly(w, 10, true);
            check.due("digest, painted", painted.get().digest(), hashOf(painted, true));
            Supplier<TerrainTiler> flat = () -> hilly(10, w, true);
            check.due("digest, painted", flat.get().digest(), hashOf(flat, true));
        }
    }

    private static void cornersByRows() {
        check.says("w, h; the terrains of all corners by rows from above, in each row from the left");
        TerrainTiler x = Check.loaded("abc/def");
        digest("three and three", x, 2, 1, 0, 1, 2, 3, 4, 5, 0, -1, 1, 0, 0, -1, 1, 0, 2);
        TerrainTiler y = Check.loaded("ab/cd/ef");
        digest("two and two and two", y, 1, 2, 0, 1, 2, 3, 4, 5, 0, -1, 1, 0, 0, -1, 1, 0, 2);
    }

    private static void cellsInTheSameOrder() {
        check.says("for each cell, in the same order, hasPath(), pathTile(), isStale(), painted(), and the "
                + "properties 0 to 3 of each painted piece; touched().");
        TerrainTiler x = Check.begun(2, 2, 0);
        x.setPath(1, 0, true);
        x.setPath(0, 1, true);
        x.setPath(1, 1, true);
        x.paintCell(0, 1);
        x.paintCell(1, 1);
        x.setPath(0, 0, true);
        // path masks: right, below right and below; and so on round: all four see the three others
        int[] tiles = new int[4];
        for (int i = 0; i < 4; i++) {
            tiles[i] = x.pathTile(i % 2, i / 2);
        }
        check.due("a path tile", tiles[0], 10);
        check.due("a path tile", tiles[1], 26);
        check.due("a path tile", tiles[2], 4);
        check.due("a path tile", tiles[3], 34);
        digest("two of four painted, then touched", x, 2, 2, 0, 0, 0, 0, 0, 0, 0, 0, 0,
                1, tiles[0], 1, 0, 1, tiles[1], 1, 0,
                1, tiles[2], 1, 1, 0, 15, 0, 0, 1, tiles[3], 1, 1, 0, 15, 0, 0, 4);
    }

    private static void allPropertiesOfPieces() {
        check.says("and the properties 0 to 3 of each painted piece");
        TerrainTiler x = Check.loaded("ab/cd");
        for (int t = 0; t < 6; t++) {
            x.setTiles(t, 1 << 1);
        }
        x.paint();
        digest("the most pieces", x, 1, 1, 0, 1, 2, 3, 0, -1, 0, 7, 0, 15, 0, 0, 1, 1, 1, 0, 1, 1, 2, 0,
                1, 1, 3, 0, 2, 1, 2, 0, 2, 1, 3, 0, 3, 1, 3, 0, 0);
        TerrainTiler y = Check.begun(1, 1, 3);
        y.setVariants(3, 8);
        y.setSeed(3);
        int variant = y.piece(0, 0, 0, 3);
        check.holds("a variant that is not 0", variant > 0);
        y.paint();
        digest("a variant", y, 1, 1, 3, 3, 3, 3, 0, -1, 0, 1, 3, 15, 0, variant, 0);
    }

    private static void paintedNotDue() {
        check.says("isStale(), painted(), and the properties 0 to 3 of each painted piece");
        TerrainTiler x = Check.begun(1, 1, 2);
        x.paint();
        x.fill(0, 0, 1, 1, 4);
        digest("what is painted, not what should be", x, 1, 1, 4, 4, 4, 4, 0, -1, 1, 1, 2, 15, 0, 0, 1);
        x.setPath(0, 0, true);
        digest("the path tile that should be", x, 1, 1, 4, 4, 4, 4, 1, 0, 1, 1, 2, 15, 0, 0, 1);
    }

    private static void settingsAreSeenByCellsAlone() {
        check.says("Returns a hash of the state.");
        same("the seed", x -> x.setSeed(1));
        same("ranks", x -> x.setRank(5, 4));
        same("variants", x -> x.setVariants(5, 8));
        same("tiles", x -> x.setTiles(5, 0));
        same("the border", x -> x.setBorder(true));
        same("the text", x -> x.type('a'));
        same("what is written", TerrainTiler::write);
        same("the history", x -> x.setSeed(0));
    }

    /** A call that is seen in no number of a map whose cells are all touched. */
    private static void same(String what, Consumer<TerrainTiler> call) {
        TerrainTiler x = Check.begun(3, 2, 0);
        long before = x.digest();
        call.accept(x);
        check.due("digest after " + what, x.digest(), before);
        check.due("digest again", x.digest(), before);
    }
}
