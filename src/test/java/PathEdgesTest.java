import java.util.TreeSet;

/** Promises 10 to 13: each sentence on paths that names a boundary case. */
public final class PathEdgesTest {
    private static final int NONE = TerrainTiler.NONE, BAD_INDEX = TerrainTiler.BAD_INDEX;
    /** The neighbours by their bits, as columns and rows of a map of 3 times 3 cells. */
    private static final int[][] NEAR = {
        {1, 0}, {2, 0}, {2, 1}, {2, 2}, {1, 2}, {0, 2}, {0, 1}, {0, 0}
    };
    private static final Check check = new Check("PathEdgesTest");

    public static void main(String[] args) {
        pathOrNot();
        pathBefore();
        bitsOfNeighbours();
        evenBits();
        oddBits();
        bitsModulo8();
        noBorderAtFirst();
        outsideTheMap();
        smallestMap();
        largestMap();
        noWrapAround();
        tilesFrom0To46();
        tilesAreOccurringMasks();
        noPathTile();
        noneOnlyWithoutError();
        check.end();
    }

    /** A map of 3 times 3 cells, a path in its middle and in the neighbours with these bits. */
    private static TerrainTiler middle(int... bits) {
        TerrainTiler x = Check.begun(3, 3, 0);
        x.setPath(1, 1, true);
        for (int b : bits) {
            x.setPath(NEAR[b][0], NEAR[b][1], true);
        }
        return x;
    }

    private static void mask(String what, int want, int... bits) {
        check.due(what, middle(bits).pathMask(1, 1), want);
    }

    private static void pathOrNot() {
        check.says("Each cell has a path or not.");
        TerrainTiler x = Check.begun(10, 10, 0);
        for (int i = 0; i < 100; i += 3) {
            x.setPath(i % 10, i / 10, true);
        }
        for (int i = 0; i < 100; i++) {
            check.due("hasPath of " + i, x.hasPath(i % 10, i / 10), i % 3 == 0 ? 1 : 0);
        }
    }

    private static void pathBefore() {
        check.says("Returns 1 if it had one before, else 0; BAD_INDEX if there is no such cell.");
        TerrainTiler x = Check.begun(1, 1, 0);
        check.due("taken from none", x.setPath(0, 0, false), 0);
        check.due("given", x.setPath(0, 0, true), 0);
        check.due("given again", x.setPath(0, 0, true), 1);
        check.due("taken", x.setPath(0, 0, false), 1);
        check.due("taken again", x.setPath(0, 0, false), 0);
        check.due("no such cell", x.setPath(1, 0, false), BAD_INDEX);
        check.due("no such cell", x.setPath(0, 1, true), BAD_INDEX);
        TerrainTiler y = Check.begun(3, 2, 0);
        check.due("one cell", y.setPath(1, 0, true), 0);
        check.due("another cell", y.setPath(0, 1, true), 0);
        check.due("another cell taken", y.setPath(0, 1, false), 1);
        check.due("the one still", y.setPath(1, 0, false), 1);
    }

    private static void bitsOfNeighbours() {
        check.says("0 above, 1 above to the right, 2 to the right, 3 below to the right, 4 below, "
                + "5 below to the left, 6 to the left, 7 above to the left.");
        mask("above", 1, 0);
        mask("to the right", 4, 2);
        mask("below", 16, 4);
        mask("to the left", 64, 6);
        mask("above to the right", 7, 0, 1, 2);
        mask("below to the right", 28, 2, 3, 4);
        mask("below to the left", 112, 4, 5, 6);
        mask("above to the left", 193, 6, 7, 0);
        mask("all", 255, 0, 1, 2, 3, 4, 5, 6, 7);
        mask("none", 0);
    }

    private static void evenBits() {
        check.says("those with even bits that have a path");
        for (int set = 0; set < 16; set++) {
            TerrainTiler x = middle();
            int want = 0;
            for (int i = 0; i < 4; i++) {
                if ((set >> i & 1) == 1) {
                    x.setPath(NEAR[2 * i][0], NEAR[2 * i][1], true);
                    want += 1 << 2 * i;
                }
            }
            check.due("pathMask", x.pathMask(1, 1), want);
        }
    }

    private static void oddBits() {
        check.says("those with odd bits that have a path, if both neighbours next to them (with the "
                + "bits b - 1 and b + 1, modulo 8) have one, too.");
        for (int b = 1; b < 8; b += 2) {
            int before = b - 1;
            int behind = (b + 1) % 8;
            mask(b + " alone", 0, b);
            mask(b + " with the one before", 1 << before, b, before);
            mask(b + " with the one behind", 1 << behind, b, behind);
            mask(b + " with both", 1 << b | 1 << before | 1 << behind, b, before, behind);
            mask("both without " + b, 1 << before | 1 << behind, before, behind);
            mask(b + " with two others", 1 << (b + 3) % 8 | 1 << (b + 5) % 8, b, (b + 3) % 8, (b + 5) % 8);
        }
        mask("odd ones alone", 0, 1, 3, 5, 7);
        mask("even ones alone", 85, 0, 2, 4, 6);
    }

    private static void bitsModulo8() {
        check.says("with the bits b - 1 and b + 1, modulo 8");
        mask("7 with 6 and 0", 193, 7, 6, 0);
        mask("7 with 6", 64, 7, 6);
        mask("7 with 0", 1, 7, 0);
        mask("6 and 0", 65, 6, 0);
    }

    private static void noBorderAtFirst() {
        check.says("(it has not, at first)");
        TerrainTiler x = new TerrainTiler();
        for (int i = 0; i < 16; i++) {
            x.setPath(i % 4, i / 4, true);
        }
        check.due("above to the left", x.pathMask(0, 0), 4 + 8 + 16);
        check.due("below to the right", x.pathMask(3, 3), 1 + 64 + 128);
        check.due("at the left side", x.pathMask(0, 1), 1 + 2 + 4 + 8 + 16);
        check.due("at the lower side", x.pathMask(1, 3), 1 + 2 + 4 + 64 + 128);
        check.due("within", x.pathMask(1, 1), 255);
    }

    private static void outsideTheMap() {
        check.says("A neighbour outside the map has a path if the border has paths");
        TerrainTiler x = Check.begun(3, 3, 0);
        for (int i = 0; i < 9; i++) {
            x.setPath(i % 3, i / 3, i != 4);
        }
        x.setBorder(true);
        // A side's middle cell loses the missing one and, with it, those at its two sides.
        int[] want = {247, 255 - 56, 223, 255 - 14, NONE, 255 - 224, 253, 255 - 131, 127};
        for (int i = 0; i < 9; i++) {
            check.due("pathMask of " + i, x.pathMask(i % 3, i / 3), want[i]);
        }
        x.setBorder(false);
        check.due("without the border", x.pathMask(0, 0), 4 + 16);
        TerrainTiler alone = Check.begun(3, 3, 0);
        alone.setBorder(true);
        for (int i = 0; i < 9; i++) {
            alone.setPath(i % 3, i / 3, true);
            int[] masks = {193, 1, 7, 64, 0, 4, 112, 16, 28};
            check.due("alone with the border", alone.pathMask(i % 3, i / 3), masks[i]);
            alone.setPath(i % 3, i / 3, false);
        }
    }

    private static void smallestMap() {
        check.says("A neighbour outside the map");
        TerrainTiler x = Check.begun(1, 1, 0);
        check.due("no path", x.pathMask(0, 0), NONE);
        x.setPath(0, 0, true);
        check.due("the smallest map", x.pathMask(0, 0), 0);
        check.due("the smallest map", x.pathTile(0, 0), 0);
        x.setBorder(true);
        check.due("and its border", x.pathMask(0, 0), 255);
        check.due("and its border", x.pathTile(0, 0), 46);
        TerrainTiler row = Check.begun(10, 1, 0);
        row.setPath(4, 0, true);
        row.setPath(5, 0, true);
        check.due("a row", row.pathMask(4, 0), 4);
        row.setBorder(true);
        check.due("a row and its border", row.pathMask(4, 0), 1 + 2 + 4 + 8 + 16);
    }

    private static void largestMap() {
        check.says("The neighbours of a cell are, with their bits");
        TerrainTiler x = Check.begun(10, 10, 0);
        for (int i = 0; i < 100; i++) {
            x.setPath(i % 10, i / 10, true);
        }
        int[][] ends = {
            {0, 0, 28}, {9, 0, 112}, {0, 9, 7}, {9, 9, 193}, {5, 0, 124}, {0, 5, 31}, {9, 5, 241},
            {5, 9, 199}, {5, 5, 255}
        };
        for (int[] at : ends) {
            check.due("pathMask(" + at[0] + ", " + at[1] + ")", x.pathMask(at[0], at[1]), at[2]);
        }
        x.setBorder(true);
        for (int[] at : ends) {
            check.due("pathMask(" + at[0] + ", " + at[1] + ")", x.pathMask(at[0], at[1]), 255);
        }
    }

    private static void noWrapAround() {
        check.says("those of its neighbours that exist");
        TerrainTiler x = Check.begun(10, 10, 0);
        for (int y = 0; y < 10; y++) {
            x.setPath(0, y, true);
            x.setPath(9, y, true);
        }
        for (int y = 1; y < 9; y++) {
            check.due("at the left side", x.pathMask(0, y), 17);
            check.due("at the right side", x.pathMask(9, y), 17);
        }
        TerrainTiler flat = Check.begun(10, 10, 0);
        for (int i = 0; i < 10; i++) {
            flat.setPath(i, 0, true);
            flat.setPath(i, 9, true);
        }
        for (int i = 1; i < 9; i++) {
            check.due("at the upper side", flat.pathMask(i, 0), 68);
            check.due("at the lower side", flat.pathMask(i, 9), 68);
        }
    }

    private static int maskOf(int near) {
        int mask = near & 85;
        for (int b = 1; b < 8; b += 2) {
            int both = 1 << b - 1 | 1 << (b + 1) % 8;
            mask |= (near & both) == both ? near & 1 << b : 0;
        }
        return mask;
    }

    private static void tilesFrom0To46() {
        check.says("are less than its path mask, 0 to 46");
        TreeSet<Integer> masks = new TreeSet<>();
        TreeSet<Integer> tiles = new TreeSet<>();
        for (int near = 0; near < 256; near++) {
            TerrainTiler x = middle();
            for (int b = 0; b < 8; b++) {
                x.setPath(NEAR[b][0], NEAR[b][1], (near >> b & 1) == 1);
            }
            masks.add(x.pathMask(1, 1));
            tiles.add(x.pathTile(1, 1));
            check.due("pathMask near " + near, x.pathMask(1, 1), maskOf(near));
        }
        check.due("masks that occur", masks.size(), 47);
        check.due("tiles that occur", tiles.size(), 47);
        check.due("the first tile", tiles.first(), 0);
        check.due("the last tile", tiles.last(), 46);
    }

    private static void tilesAreOccurringMasks() {
        check.says("The path tile of a cell with a path is the number of masks that can occur as path "
                + "masks (on any map) and are less than its path mask");
        TreeSet<Integer> occur = new TreeSet<>();
        for (int near = 0; near < 256; near++) {
            occur.add(maskOf(near));
        }
        for (int near : occur) {
            TerrainTiler x = middle();
            for (int b = 0; b < 8; b++) {
                x.setPath(NEAR[b][0], NEAR[b][1], (near >> b & 1) == 1);
            }
            check.due("pathTile of mask " + near, x.pathTile(1, 1), occur.headSet(near).size());
        }
        TerrainTiler few = Check.begun(1, 1, 0);
        few.setBorder(true);
        few.setPath(0, 0, true);
        check.due("also those that do not occur on this map", few.pathTile(0, 0), 46);
    }

    private static void noPathTile() {
        check.says("A cell without a path has no path tile.");
        TerrainTiler x = middle(0, 1, 2, 3, 4, 5, 6, 7);
        x.setBorder(true);
        x.setPath(1, 1, false);
        check.due("pathTile", x.pathTile(1, 1), NONE);
        check.due("pathMask", x.pathMask(1, 1), NONE);
        check.due("pathTile of another", x.pathTile(0, 0), 44);
    }

    private static void noneOnlyWithoutError() {
        check.says("NONE is returned only if no error applies.");
        TerrainTiler x = Check.begun(2, 3, 0);
        for (int[] at : new int[][] {{-1, 0}, {2, 0}, {0, -1}, {0, 3}}) {
            check.due("pathMask", x.pathMask(at[0], at[1]), BAD_INDEX);
            check.due("pathTile", x.pathTile(at[0], at[1]), BAD_INDEX);
        }
        x.setBorder(true);
        check.due("the border is no cell", x.pathMask(2, 3), BAD_INDEX);
        check.due("the border is no cell", x.pathTile(2, 3), BAD_INDEX);
    }
}
