/** Promises 1 to 9: each sentence on the map and its corners that names a boundary case. */
public final class MapEdgesTest {
    private static final int BAD_INDEX = TerrainTiler.BAD_INDEX, BAD_VALUE = TerrainTiler.BAD_VALUE;
    private static final int LOW = Integer.MIN_VALUE, HIGH = Integer.MAX_VALUE;
    private static final int[] NO_TERRAIN = {LOW, -2, -1, 6, 7, HIGH};
    private static final int[] NO_SIDE = {LOW, -10, -1, 0, 11, 12, HIGH};
    private static final int[][] SIZES = {{1, 1}, {1, 10}, {10, 1}, {3, 7}, {7, 3}, {10, 10}};
    private static final Check check = new Check("MapEdgesTest");

    public static void main(String[] args) {
        aNewObject();
        allSizes();
        sizesOutOfRange();
        whichCellsThereAre();
        whichCornersThereAre();
        whichTerrainsThereAre();
        aNewMap();
        settingsStay();
        beginWithTwoFaults();
        sizeOfTheMap();
        sizeOutOfRange();
        cornerThatItHad();
        rectangleInAnyOrder();
        rectanglesOfAllSizes();
        fillCountsChanges();
        eitherCornerOfTheRectangle();
        floodSteps();
        floodOverItsTerrain();
        floodCountsChanges();
        raiseByTheGreaterDifference();
        raiseTooLow();
        raiseTooHigh();
        raiseByRanks();
        raiseCountsChanges();
        regionsOfATerrain();
        regionsAsLargeAsPossible();
        check.end();
    }

    private static void aNewObject() {
        check.says("Creates a tiler with a map of 4 times 4 cells, terrain 0 at all corners, no paths, "
                + "the settings that are described, and an empty text; nothing is written.");
        TerrainTiler x = new TerrainTiler();
        check.due("size(0)", x.size(0), 4);
        check.due("size(1)", x.size(1), 4);
        check.due("size(2)", x.size(2), 0);
        check.map("a new object", x, "5a/5a/5a/5a/5a");
        TerrainTiler y = new TerrainTiler();
        check.due("written(0)", y.written(0), BAD_INDEX);
        check.due("textFault()", y.textFault(), 0);
        check.due("clearText()", y.clearText(), 0);
        check.due("undo()", y.undo(), TerrainTiler.BAD_STATE);
        for (int t = 0; t < 6; t++) {
            check.due("rank", y.rank(t), t);
            check.due("setTiles", y.setTiles(t, 65534), 65534);
            check.due("setVariants", y.setVariants(t, 1), 1);
        }
        check.due("setSeed", y.setSeed(0), 0);
        check.due("setBorder", y.setBorder(false), 0);
    }

    private static void allSizes() {
        check.says("A map has w times h cells, w and h from 1 to 10.");
        for (int w = 1; w <= 10; w++) {
            for (int h = 1; h <= 10; h++) {
                TerrainTiler x = new TerrainTiler();
                check.due("begin(" + w + ", " + h + ", 5)", x.begin(w, h, 5), w * h);
                check.due("size(0)", x.size(0), w);
                check.due("size(1)", x.size(1), h);
                check.due("touched()", x.touched(), w * h);
                check.due("stale()", x.stale(), w * h);
            }
        }
    }

    private static void sizesOutOfRange() {
        check.says("BAD_VALUE if w or h is out of range.");
        for (int bad : NO_SIDE) {
            for (int good : new int[] {1, 10}) {
                TerrainTiler x = new TerrainTiler();
                check.due("begin(" + bad + ", ..)", x.begin(bad, good, 0), BAD_VALUE);
                check.due("begin(.., " + bad + ")", x.begin(good, bad, 0), BAD_VALUE);
                check.due("begin of both", x.begin(bad, bad, 0), BAD_VALUE);
                check.due("size(0)", x.size(0), 4);
            }
        }
    }

    private interface At {
        int ask(TerrainTiler tiler, int x, int y);
    }

    /** Asks at all places in and around a map, and answers the tiler that was asked. */
    private static TerrainTiler places(String name, int[] size, int more, At call) {
        TerrainTiler tiler = Check.begun(size[0], size[1], 2);
        for (int y = -2; y <= 12; y++) {
            for (int x = -2; x <= 12; x++) {
                boolean there = x >= 0 && x < size[0] + more && y >= 0 && y < size[1] + more;
                boolean known = call.ask(tiler, x, y) != BAD_INDEX;
                check.due(name + " knows (" + x + ", " + y + ")", known ? 1 : 0, there ? 1 : 0);
            }
        }
        int[][] far = {{LOW, 0}, {HIGH, 0}, {0, LOW}, {0, HIGH}, {LOW, LOW}, {HIGH, HIGH}};
        for (int[] at : far) {
            check.due(name + " far away", call.ask(tiler, at[0], at[1]), BAD_INDEX);
        }
        return tiler;
    }

    private static void whichCellsThereAre() {
        check.says("Cell (x, y) is in column x, 0 to w - 1, and row y, 0 to h - 1; rows go down.");
        for (int[] size : SIZES) {
            places("hasPath", size, 0, TerrainTiler::hasPath);
            places("pathMask", size, 0, TerrainTiler::pathMask);
            places("pathTile", size, 0, TerrainTiler::pathTile);
            places("layers", size, 0, TerrainTiler::layers);
            places("layer", size, 0, (t, x, y) -> t.layer(x, y, 0, 1));
            places("pieces", size, 0, TerrainTiler::pieces);
            places("piece", size, 0, (t, x, y) -> t.piece(x, y, 0, 1));
            places("painted", size, 0, TerrainTiler::painted);
            places("isStale", size, 0, TerrainTiler::isStale);
            TerrainTiler paths = places("setPath", size, 0, (t, x, y) -> t.setPath(x, y, true));
            check.due("all cells have a path", paths.size(2), size[0] * size[1]);
            TerrainTiler painted = places("paintCell", size, 0, TerrainTiler::paintCell);
            check.due("all cells are painted", painted.touched(), 0);
        }
    }

    private static void whichCornersThereAre() {
        check.says("Corner (x, y) has x from 0 to w and y from 0 to h.");
        for (int[] size : SIZES) {
            places("corner", size, 1, TerrainTiler::corner);
            places("flood", size, 1, (t, x, y) -> t.flood(x, y, 2));
            places("raise", size, 1, (t, x, y) -> t.raise(x, y, 2));
            places("fill from", size, 1, (t, x, y) -> t.fill(x, y, 0, 0, 2));
            places("fill to", size, 1, (t, x, y) -> t.fill(0, 0, x, y, 2));
            TerrainTiler set = places("setCorner", size, 1, (t, x, y) -> t.setCorner(x, y, 3));
            check.map("all corners are set", set, Check.written(Check.begun(size[0], size[1], 3)));
        }
    }

    private static void whichTerrainsThereAre() {
        check.says("Each corner has a terrain, 0 to 5.");
        for (int terrain = 0; terrain < 6; terrain++) {
            TerrainTiler x = new TerrainTiler();
            check.due("begin", x.begin(2, 2, terrain), 4);
            check.due("corner", x.corner(2, 2), terrain);
            check.due("setCorner", x.setCorner(1, 1, 5 - terrain), terrain);
            check.due("corner", x.corner(1, 1), 5 - terrain);
            check.due("fill", x.fill(1, 1, 1, 1, terrain), 1);
            check.due("flood", x.flood(0, 0, 5 - terrain), 9);
            check.holds("raise", x.raise(0, 0, terrain) >= 1);
            check.due("regions", x.regions(terrain), 1);
            check.due("rank", x.rank(terrain), terrain);
        }
        for (int bad : NO_TERRAIN) {
            TerrainTiler x = new TerrainTiler();
            check.due("begin", x.begin(2, 2, bad), BAD_INDEX);
            check.due("setCorner", x.setCorner(0, 0, bad), BAD_INDEX);
            check.due("fill", x.fill(0, 0, 1, 1, bad), BAD_INDEX);
            check.due("flood", x.flood(0, 0, bad), BAD_INDEX);
            check.due("raise", x.raise(0, 0, bad), BAD_INDEX);
            check.due("regions", x.regions(bad), BAD_INDEX);
            check.due("rank", x.rank(bad), BAD_INDEX);
            check.due("undo", x.undo(), TerrainTiler.BAD_STATE);
        }
    }

    private static void aNewMap() {
        check.says("Makes a new map, with terrain at all corners, and no paths.");
        TerrainTiler x = Check.begun(10, 10, 1);
        x.raise(5, 5, 5);
        for (int i = 0; i < 10; i++) {
            x.setPath(i, i, true);
        }
        x.paint();
        for (int[] size : SIZES) {
            x.begin(size[0], size[1], 3);
            check.map("a new map", x, Check.written(Check.begun(size[0], size[1], 3)));
            check.due("no paths", x.size(2), 0);
            check.due("nothing is painted", x.kinds(), 0);
            check.due("all are touched", x.touched(), size[0] * size[1]);
        }
    }

    private static void settingsStay() {
        check.says("The settings stay.");
        TerrainTiler x = Check.begun(2, 2, 0);
        x.setRank(4, 1);
        x.setTiles(4, 6);
        x.setVariants(4, 7);
        x.setSeed(-5);
        x.setBorder(true);
        x.begin(1, 1, 4);
        Check.type(x, "ef/ef");
        x.load();
        check.due("rank", x.rank(4), 1);
        check.due("setTiles", x.setTiles(4, 6), 32768 + 6);
        check.due("setVariants", x.setVariants(4, 7), 7);
        check.due("setSeed", x.setSeed(-5), 0);
        check.due("setBorder", x.setBorder(true), 1);
    }

    private static void beginWithTwoFaults() {
        check.says("BAD_INDEX if there is no such terrain; BAD_VALUE if w or h is out of range.");
        for (int bad : NO_TERRAIN) {
            for (int side : NO_SIDE) {
                TerrainTiler x = new TerrainTiler();
                check.due("begin", x.begin(side, 1, bad), BAD_INDEX);
                check.due("begin", x.begin(1, side, bad), BAD_INDEX);
                check.due("begin", x.begin(side, side, bad), BAD_INDEX);
            }
        }
    }

    private static void sizeOfTheMap() {
        check.says("`what`: 0 w, 1 h, 2 how many cells have a path");
        for (int[] size : SIZES) {
            TerrainTiler x = Check.begun(size[0], size[1], 0);
            check.due("size(0)", x.size(0), size[0]);
            check.due("size(1)", x.size(1), size[1]);
            for (int i = 0; i < size[0] * size[1]; i++) {
                check.due("size(2)", x.size(2), i);
                x.setPath(i % size[0], i / size[0], true);
            }
            check.due("all have paths", x.size(2), size[0] * size[1]);
            x.setPath(size[0] - 1, size[1] - 1, false);
            check.due("one less", x.size(2), size[0] * size[1] - 1);
        }
    }

    private static void sizeOutOfRange() {
        check.says("Returns the number; BAD_VALUE if what is out of range.");
        for (int bad : new int[] {LOW, -2, -1, 3, 4, HIGH}) {
            check.due("size(" + bad + ")", new TerrainTiler().size(bad), BAD_VALUE);
        }
    }

    private static void cornerThatItHad() {
        check.says("Returns the terrain that it had; BAD_INDEX if there is no such corner or terrain.");
        TerrainTiler x = Check.begun(10, 10, 0);
        int[][] ends = {{0, 0}, {10, 0}, {0, 10}, {10, 10}, {5, 5}};
        for (int[] at : ends) {
            int had = 0;
            for (int terrain : new int[] {5, 5, 1, 0, 4}) {
                check.due("setCorner", x.setCorner(at[0], at[1], terrain), had);
                check.due("corner", x.corner(at[0], at[1]), terrain);
                had = terrain;
            }
        }
        check.map("no other corner", x, "e9ae/11a/11a/11a/11a/5ae5a/11a/11a/11a/11a/e9ae");
    }

    private static void rectangleInAnyOrder() {
        check.says("column of the opposite corner of the rectangle (in any order)");
        int[][] orders = {{1, 0, 3, 2}, {3, 0, 1, 2}, {1, 2, 3, 0}, {3, 2, 1, 0}};
        for (int[] o : orders) {
            TerrainTiler x = Check.begun(4, 3, 0);
            check.due("fill", x.fill(o[0], o[1], o[2], o[3], 2), 9);
            check.map("fill", x, "a3ca/a3ca/a3ca/5a");
        }
    }

    private static void rectanglesOfAllSizes() {
        check.says("Sets the terrain of all corners of a rectangle.");
        TerrainTiler one = Check.begun(1, 1, 0);
        check.due("one corner", one.fill(1, 1, 1, 1, 1), 1);
        check.map("one corner", one, "2a/ab");
        check.due("the smallest map", one.fill(1, 0, 0, 1, 2), 4);
        check.map("the smallest map", one, "2c/2c");
        TerrainTiler all = Check.begun(10, 10, 0);
        check.due("a row", all.fill(0, 10, 10, 10, 1), 11);
        check.due("a column", all.fill(10, 0, 10, 10, 2), 11);
        check.map("both", all, "10ac/10ac/10ac/10ac/10ac/10ac/10ac/10ac/10ac/10ac/10bc");
        check.due("the largest map", all.fill(10, 10, 0, 0, 3), 121);
        check.due("one region", all.regions(3), 1);
    }

    private static void fillCountsChanges() {
        check.says("Returns how many corners have another terrain then; BAD_INDEX if there is no such "
                + "corner (either one) or terrain.");
        TerrainTiler x = Check.loaded("abc/bbb/aab");
        check.due("some have it already", x.fill(0, 0, 2, 2, 1), 4);
        check.due("all have it", x.fill(0, 0, 2, 2, 1), 0);
        check.due("none has it", x.fill(1, 0, 2, 2, 0), 6);
    }

    private static void eitherCornerOfTheRectangle() {
        check.says("BAD_INDEX if there is no such corner (either one) or terrain.");
        for (int bad : new int[] {LOW, -1, 4, HIGH}) {
            TerrainTiler x = Check.begun(3, 3, 0);
            check.due("fill", x.fill(bad, 1, 2, 2, 1), BAD_INDEX);
            check.due("fill", x.fill(1, bad, 2, 2, 1), BAD_INDEX);
            check.due("fill", x.fill(1, 1, bad, 2, 1), BAD_INDEX);
            check.due("fill", x.fill(1, 1, 2, bad, 1), BAD_INDEX);
            check.due("fill", x.fill(bad, bad, bad, bad, bad), BAD_INDEX);
            check.map("nothing is filled", x, "4a/4a/4a/4a");
        }
        TerrainTiler wide = Check.begun(5, 2, 0);
        check.due("its columns", wide.fill(0, 0, 5, 2, 1), 18);
        check.due("not its rows", wide.fill(0, 0, 2, 5, 1), BAD_INDEX);
    }

    private static void floodSteps() {
        check.says("by steps of 1 to the left, right, up or down");
        String[] texts = {"acc/bbb/ccc", "ccc/bbc/cca", "cbc/cbc/aca", "aba/bab/aba"};
        check.due("to both sides", flooded(texts[0], 1, 1), 3);
        check.due("from the right to the left", flooded(texts[0], 2, 1), 3);
        check.due("from the left to the right", flooded(texts[1], 0, 1), 2);
        check.due("down", flooded(texts[2], 1, 0), 2);
        check.due("up", flooded(texts[2], 1, 1), 2);
        check.due("no diagonals", flooded(texts[3], 1, 1), 1);
        check.due("not from the end of a row to the next one", flooded("bba/abb/bbb", 2, 0), 1);
        check.due("not from the start of a row to the last one", flooded("bba/abb/bbb", 0, 1), 1);
        String largest = "10ba/a10b/11b/11b/11b/11b/11b/11b/11b/10ba/a10b";
        check.due("nor in the largest map", flooded(largest, 10, 0), 1);
        check.due("nor in the largest map", flooded(largest, 0, 10), 1);
        check.due("not over the sides of the map", flooded("aba/aba/aba", 0, 0), 3);
        check.due("not over the top of the map", flooded("aaa/bbb/aaa", 0, 0), 3);
    }

    private static int flooded(String text, int x, int y) {
        return Check.loaded(text).flood(x, y, 5);
    }

    private static void floodOverItsTerrain() {
        check.says("over corners that all have its terrain");
        TerrainTiler x = Check.loaded("aabaa/aabaa/aacaa");
        check.due("flood", x.flood(0, 0, 1), 6);
        check.map("not beyond", x, "3b2a/3b2a/2bc2a");
        check.due("together with what it met", x.flood(2, 1, 3), 8);
        check.map("flood", x, "3d2a/3d2a/2dc2a");
        TerrainTiler snake = Check.loaded("11a/10ba/11a/a10b/11a/10ba/11a/a10b/11a/10ba/11a");
        check.due("a long way", snake.flood(0, 0, 2), 71);
        check.due("its end", snake.corner(0, 10), 2);
    }

    private static void floodCountsChanges() {
        check.says("Returns how many corners have another terrain then; BAD_INDEX if there is no such "
                + "corner or terrain.");
        TerrainTiler one = Check.begun(1, 1, 0);
        check.due("the smallest map", one.flood(1, 1, 5), 4);
        check.due("the terrain that it has", one.flood(0, 0, 5), 0);
        TerrainTiler all = Check.begun(10, 10, 0);
        check.due("the largest map", all.flood(10, 10, 5), 121);
        check.due("the terrain that it has", all.flood(0, 0, 5), 0);
        check.due("once more", all.flood(5, 5, 4), 121);
    }

    private static void raiseByTheGreaterDifference() {
        check.says("d the greater one of the differences of columns and rows");
        TerrainTiler x = Check.begun(5, 5, 0);
        x.raise(2, 3, 5);
        check.map("raise", x, "6c/5dc/d3edc/defedc/d3edc/5dc");
        TerrainTiler wide = Check.begun(10, 1, 0);
        wide.raise(10, 1, 5);
        check.map("at the right end", wide, "6abcd2e/6abcdef");
        TerrainTiler high = Check.begun(1, 10, 0);
        high.raise(0, 0, 5);
        check.map("at the upper end", high, "fe/2e/2d/2c/2b/2a/2a/2a/2a/2a/2a");
    }

    private static void raised(String text, int[] at, int terrain, int changed, String want) {
        TerrainTiler x = Check.loaded(text);
        check.due("raise in " + text, x.raise(at[0], at[1], terrain), changed);
        check.map("raise in " + text, x, want);
    }

    private static void raiseTooLow() {
        check.says("a corner whose rank is less than r - d gets the terrain with the rank r - d");
        raised("4a/4a", new int[] {0, 0}, 3, 6, "dcba/2cba");
        raised("abcdef/abcdef", new int[] {0, 0}, 3, 4, "d2cdef/3cdef");
        raised("acba/2cba", new int[] {0, 0}, 3, 1, "dcba/2cba");
        raised("5a/5a", new int[] {4, 0}, 1, 1, "4ab/5a");
    }

    private static void raiseTooHigh() {
        check.says("one whose rank is greater than r + d that with the rank r + d.");
        raised("4f/4f", new int[] {0, 0}, 0, 8, "abcd/2bcd");
        raised("fedcba/fedcba", new int[] {0, 0}, 2, 4, "c2dcba/3dcba");
        raised("fbcd/2bcd", new int[] {0, 0}, 0, 1, "abcd/2bcd");
        raised("6f/6f", new int[] {5, 0}, 3, 4, "4fed/4f2e");
    }

    private static void raiseByRanks() {
        check.says("let r be its rank");
        TerrainTiler x = Check.begun(5, 1, 0);
        x.setRank(0, 5);
        x.setRank(5, 0);
        // by ranks: f b c d e a
        check.due("the lowest", x.raise(0, 0, 5), 10);
        check.map("the lowest", x, "fbcdea/2bcdea");
        check.due("the highest", x.raise(5, 1, 0), 0);
        check.due("the lowest again", x.raise(5, 0, 5), 6);
        check.map("the lowest again", x, "fb2cbf/2b2c2b");
        TerrainTiler y = Check.begun(5, 1, 0);
        y.setRank(0, 5);
        y.setRank(3, 0);
        // by ranks: d b c e f a
        check.due("the second", y.raise(0, 0, 1), 8);
        check.map("the second", y, "bcef2a/2cef2a");
        check.due("the last but one", y.raise(0, 1, 5), 4);
        check.map("the last but one", y, "3ef2a/f2ef2a");
    }

    private static void raiseCountsChanges() {
        check.says("Sets the terrain of a corner, and adapts all others");
        TerrainTiler one = Check.begun(1, 1, 0);
        check.due("the smallest map", one.raise(0, 0, 1), 1);
        check.map("the others are near enough", one, "ba/2a");
        check.due("the same again", one.raise(0, 0, 1), 0);
        check.due("all of them", one.raise(1, 1, 5), 4);
        check.map("all of them", one, "2e/ef");
        TerrainTiler all = Check.begun(10, 10, 0);
        check.due("the largest map", all.raise(5, 5, 5), 81);
        check.due("down again", all.raise(5, 5, 0), 25);
        check.due("a corner of it", all.raise(10, 10, 5), 15);
    }

    private static void regionsOfATerrain() {
        check.says("Returns how many regions of a terrain there are");
        TerrainTiler x = Check.begun(10, 10, 0);
        check.due("the whole map", x.regions(0), 1);
        check.due("none", x.regions(1), 0);
        for (int i = 1; i < 121; i += 2) {
            x.setCorner(i % 11, i / 11, 5);
        }
        check.due("the most there can be", x.regions(0), 61);
        check.due("the others", x.regions(5), 60);
        check.due("none", x.regions(4), 0);
        TerrainTiler one = Check.loaded("ab/ba");
        check.due("the smallest map", one.regions(0), 2);
        check.due("the smallest map", one.regions(1), 2);
    }

    private static void regionsAsLargeAsPossible() {
        check.says("that can be reached from one another as by flood(), as large as possible.");
        TerrainTiler x = Check.loaded("bba/abb/bba");
        check.due("not from the end of a row to the next one", x.regions(0), 3);
        check.due("joined", x.regions(1), 1);
        TerrainTiler ring = Check.loaded("5a/ab2aa/ababa/a3ba/5a");
        check.due("joined late", ring.regions(0), 1);
        check.due("the other", ring.regions(1), 1);
        TerrainTiler comb = Check.loaded("ababababa/9a");
        check.due("teeth of one comb", comb.regions(0), 1);
        check.due("what is between them", comb.regions(1), 4);
    }
}
