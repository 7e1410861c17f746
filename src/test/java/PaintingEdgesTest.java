import java.util.ArrayList;
import java.util.LinkedHashMap;
import java.util.List;
import java.util.Map;
import java.util.Random;
import java.util.function.Consumer;

/** Promises 26 to 33: each sentence on painting, touching and kinds that names a boundary case. */
public final class PaintingEdgesTest {
    private static final int BAD_INDEX = TerrainTiler.BAD_INDEX, BAD_VALUE = TerrainTiler.BAD_VALUE;
    private static final int LOW = Integer.MIN_VALUE, HIGH = Integer.MAX_VALUE;
    private static final int[][] SIZES = {{1, 1}, {1, 10}, {10, 1}, {3, 7}, {10, 10}};
    private static final Check check = new Check("PaintingEdgesTest");

    public static void main(String[] args) {
        nothingPaintedAtFirst();
        nothingPaintedInANewMap();
        paintedStays();
        staleByPieces();
        staleByThePath();
        staleBySettings();
        newCellsAreTouched();
        cornersTouch();
        pathsTouch();
        settingsTouchAll();
        sameValuesTouchNothing();
        changedBackIsTouched();
        paintCountsStaleOnes();
        paintAllSizes();
        paintOneCell();
        paintCellThatIsNotTouched();
        noKinds();
        equalProperties();
        mostKinds();
        orderOfKinds();
        howManyThereAre();
        noSuchKind();
        kindPropertyOutOfRange();
        check.end();
    }

    private static TerrainTiler painted(int w, int h, int terrain) {
        TerrainTiler x = Check.begun(w, h, terrain);
        x.paint();
        return x;
    }

    /** A sign for each cell, by rows: whether it is touched. Paints them all. */
    private static String touches(TerrainTiler x) {
        StringBuilder signs = new StringBuilder();
        int before = x.touched();
        int w = x.size(0);
        for (int left = w * x.size(1), cell = 0; left > 0; left--, cell++) {
            x.paintCell(cell % w, cell / w);
            int touched = x.touched();
            signs.append(touched < before ? '#' : '.');
            before = touched;
        }
        return signs.toString();
    }

    private static void touched(String what, TerrainTiler x, String want) {
        String got = touches(x);
        check.holds(what + " touches " + want + ", not " + got + ":", got.equals(want));
    }

    private static void nothingPaintedAtFirst() {
        check.says("At first, and in a new map, no pieces and no path tile are painted anywhere.");
        TerrainTiler x = new TerrainTiler();
        for (int i = 0; i < 16; i++) {
            check.due("painted", x.painted(i % 4, i / 4), 0);
            check.due("isStale", x.isStale(i % 4, i / 4), 1);
        }
        check.due("kinds", x.kinds(), 0);
        check.due("stale", x.stale(), 16);
    }

    private static void nothingPaintedInANewMap() {
        check.says("At first, and in a new map, no pieces");
        TerrainTiler x = painted(10, 10, 0);
        Check.type(x, "11a/11a");
        for (int[] size : SIZES) {
            x.begin(size[0], size[1], 0);
            check.due("painted", x.painted(0, 0), 0);
            check.due("painted", x.painted(size[0] - 1, size[1] - 1), 0);
            check.due("kinds", x.kinds(), 0);
            check.due("stale", x.stale(), size[0] * size[1]);
            x.paint();
        }
        x.load();
        check.due("painted", x.painted(9, 0), 0);
        check.due("kinds", x.kinds(), 0);
        check.due("stale", x.stale(), 10);
    }

    private static void paintedStays() {
        check.says("Returns the number of pieces that are painted in a cell.");
        TerrainTiler x = Check.loaded("ab/cd");
        for (int t = 0; t < 6; t++) {
            x.setTiles(t, 1 << 1);
        }
        check.due("none yet", x.painted(0, 0), 0);
        x.paint();
        check.due("the most", x.painted(0, 0), 7);
        x.fill(0, 0, 1, 1, 0);
        check.due("until it is painted again", x.painted(0, 0), 7);
        x.paint();
        check.due("the fewest", x.painted(0, 0), 1);
        for (int bad : new int[] {LOW, -1, 1, HIGH}) {
            check.due("painted", x.painted(bad, 0), BAD_INDEX);
            check.due("painted", x.painted(0, bad), BAD_INDEX);
        }
    }

    private static void stale(String what, String text, Consumer<TerrainTiler> change, int want) {
        TerrainTiler x = Check.loaded(text);
        x.setPath(0, 0, true);
        x.paint();
        check.due(what + ", before", x.isStale(0, 0), 0);
        check.due(what + ", before", x.stale(), 0);
        change.accept(x);
        check.due(what, x.isStale(0, 0), want);
        check.due(what, x.stale(), want);
    }

    private static void staleByPieces() {
        check.says("A cell is stale if what is painted in it is not what it should be by the present map "
                + "and settings.");
        stale("another terrain", "ab/bb", x -> x.fill(0, 0, 1, 1, 2), 1);
        stale("another tile", "ab/bb", x -> x.setCorner(1, 0, 0), 1);
        stale("a piece more", "ab/bb", x -> x.setCorner(1, 0, 2), 1);
        stale("a piece less", "ab/bb", x -> x.setCorner(0, 0, 1), 1);
        stale("another order", "ab/ba", x -> x.setRank(0, 1), 1);
        stale("another way", "ab/aa", x -> x.setTiles(1, 1 << 1), 1);
        stale("put together", "ab/bb", x -> x.setTiles(1, 1 << 2 | 1 << 12), 1);
        stale("a full one instead", "ab/bb", x -> x.setTiles(1, 0), 1);
        stale("nothing", "ab/bb", x -> x.setCorner(0, 0, 0), 0);
        stale("there and back", "ab/bb", x -> {
            x.setCorner(0, 0, 3);
            x.setCorner(0, 0, 0);
        }, 0);
    }

    private static void staleByThePath() {
        check.says("What is painted in a cell is a sequence of pieces, and a path tile or none.");
        stale("no path any more", "2a/2a", x -> x.setPath(0, 0, false), 1);
        stale("another path tile", "2a/2a", x -> x.setBorder(true), 1);
        stale("there and back", "2a/2a", x -> {
            x.setPath(0, 0, false);
            x.setPath(0, 0, true);
        }, 0);
        TerrainTiler x = painted(3, 1, 0);
        x.setPath(1, 0, true);
        check.due("a path now", x.isStale(1, 0), 1);
        check.due("beside it", x.isStale(0, 0), 0);
        x.paint();
        x.setPath(0, 0, true);
        check.due("another path tile", x.isStale(1, 0), 1);
        check.due("across", x.isStale(2, 0), 0);
        check.due("stale", x.stale(), 2);
    }

    private static void staleBySettings() {
        check.says("by the present map and settings");
        stale("other tiles that it has not", "ab/bb", x -> x.setTiles(1, 1 << 14), 0);
        stale("another terrain's tiles", "ab/bb", x -> x.setTiles(2, 0), 0);
        stale("the seed with one variant", "ab/bb", x -> x.setSeed(5), 0);
        stale("another terrain's variants", "ab/bb", x -> x.setVariants(1, 8), 0);
        stale("ranks that keep the order", "ab/bb", x -> x.setRank(5, 2), 0);
        TerrainTiler x = painted(10, 10, 0);
        x.setVariants(0, 8);
        int stale = 0;
        for (int i = 0; i < 100; i++) {
            boolean other = x.piece(i % 10, i / 10, 0, 3) != 0;
            check.due("another variant", x.isStale(i % 10, i / 10), other ? 1 : 0);
            stale += other ? 1 : 0;
        }
        check.due("stale", x.stale(), stale);
        check.holds("some, not all", stale > 0 && stale < 100);
    }

    private static void newCellsAreTouched() {
        check.says("All cells of a new map, and of the map at first, are touched.");
        check.due("at first", new TerrainTiler().touched(), 16);
        for (int[] size : SIZES) {
            TerrainTiler x = painted(2, 2, 0);
            check.due("none", x.touched(), 0);
            x.begin(size[0], size[1], 0);
            check.due("all", x.touched(), size[0] * size[1]);
            x.paint();
            x.begin(size[0], size[1], 0);
            check.due("all, though they are as before", x.touched(), size[0] * size[1]);
        }
        TerrainTiler x = Check.loaded("2a/2a/2a");
        x.paint();
        x.load();
        check.due("all of a loaded map", x.touched(), 2);
    }

    private static void cornersTouch() {
        check.says("A change of the terrain of a corner touches all cells that have this corner");
        String[] want = {
            "#........", "##.......", ".##......", "..#......", "#..#.....", "##.##....",
            ".##.##...", "..#..#...", "...#..#..", "...##.##.", "....##.##", ".....#..#",
            "......#..", "......##.", ".......##", "........#"
        };
        for (int i = 0; i < 16; i++) {
            TerrainTiler x = painted(3, 3, 0);
            x.setCorner(i % 4, i / 4, 1);
            touched("corner " + i, x, want[i]);
        }
        TerrainTiler one = painted(1, 1, 0);
        one.setCorner(1, 1, 5);
        touched("the smallest map", one, "#");
        TerrainTiler large = painted(10, 10, 0);
        large.setCorner(10, 10, 5);
        touched("the largest map", large, ".".repeat(99) + "#");
        TerrainTiler side = painted(10, 10, 0);
        side.setCorner(10, 5, 5);
        touched("its side", side, ".".repeat(49) + "#" + ".".repeat(9) + "#" + ".".repeat(40));
        TerrainTiler filled = Check.loaded("baaa/aaaa/aaaa/aaaa");
        filled.paint();
        filled.fill(0, 0, 0, 1, 1);
        touched("fill, where it changes", filled, "#..#.....");
        TerrainTiler flooded = Check.loaded("baaa/baaa/aaab/aaaa");
        flooded.paint();
        flooded.flood(3, 2, 2);
        touched("flood", flooded, ".....#..#");
        TerrainTiler raised = painted(3, 3, 0);
        raised.raise(3, 0, 2);
        touched("raise, where it changes", raised, ".##.##...");
    }

    private static void pathsTouch() {
        check.says("a change of the path of a cell touches it and those of its neighbours that exist");
        String[] want = {
            "##..##..........", "###.###.........", ".###.###........", "..##..##........",
            "##..##..##......", "###.###.###.....", ".###.###.###....", "..##..##..##....",
            "....##..##..##..", "....###.###.###.", ".....###.###.###", "......##..##..##",
            "........##..##..", "........###.###.", ".........###.###", "..........##..##"
        };
        for (int i = 0; i < 16; i++) {
            TerrainTiler x = painted(4, 4, 0);
            x.setPath(i % 4, i / 4, true);
            touched("path " + i, x, want[i]);
            x.setPath(i % 4, i / 4, false);
            touched("path away " + i, x, want[i]);
        }
        TerrainTiler one = painted(1, 1, 0);
        one.setPath(0, 0, true);
        touched("the smallest map", one, "#");
        TerrainTiler large = painted(10, 10, 0);
        large.setPath(9, 9, true);
        touched("the largest map", large, ".".repeat(88) + "##........##");
        TerrainTiler side = painted(10, 10, 0);
        side.setPath(9, 0, true);
        touched("its side", side, "........##........##" + ".".repeat(80));
    }

    private static void settingsTouchAll() {
        check.says("a change of ranks, of a set of tiles, of variants, of the seed, or of the border "
                + "touches all cells.");
        for (int[] size : SIZES) {
            int all = size[0] * size[1];
            check.due("ranks", after(size, x -> x.setRank(5, 4)), all);
            check.due("a set of tiles", after(size, x -> x.setTiles(5, 65532)), all);
            check.due("variants", after(size, x -> x.setVariants(5, 2)), all);
            check.due("the seed", after(size, x -> x.setSeed(1)), all);
            check.due("the border", after(size, x -> x.setBorder(true)), all);
        }
    }

    private static int after(int[] size, Consumer<TerrainTiler> call) {
        TerrainTiler x = painted(size[0], size[1], 0);
        call.accept(x);
        return x.touched();
    }

    private static void sameValuesTouchNothing() {
        check.says("What is set to the value that it has already is not changed.");
        int[] size = {4, 3};
        check.due("setCorner", after(size, x -> x.setCorner(1, 1, 0)), 0);
        check.due("fill", after(size, x -> x.fill(0, 0, 4, 3, 0)), 0);
        check.due("flood", after(size, x -> x.flood(2, 2, 0)), 0);
        check.due("raise", after(size, x -> x.raise(2, 2, 0)), 0);
        check.due("setPath", after(size, x -> x.setPath(1, 1, false)), 0);
        check.due("setRank", after(size, x -> x.setRank(3, 3)), 0);
        check.due("setTiles", after(size, x -> x.setTiles(3, 65534)), 0);
        check.due("setTiles", after(size, x -> x.setTiles(3, 32767)), 0);
        check.due("setVariants", after(size, x -> x.setVariants(3, 1)), 0);
        check.due("setSeed", after(size, x -> x.setSeed(0)), 0);
        check.due("setBorder", after(size, x -> x.setBorder(false)), 0);
        TerrainTiler set = Check.begun(4, 3, 0);
        again(set);
        set.paint();
        again(set);
        check.due("all again", set.touched(), 0);
    }

    private static void again(TerrainTiler x) {
        x.setCorner(1, 1, 2);
        x.setPath(1, 1, true);
        x.setRank(3, 5);
        x.setTiles(3, 10);
        x.setVariants(3, 8);
        x.setSeed(-9);
        x.setBorder(true);
    }

    private static void changedBackIsTouched() {
        check.says("There is a set of touched cells.");
        TerrainTiler x = painted(3, 3, 0);
        x.setCorner(0, 0, 1);
        x.setCorner(0, 0, 0);
        check.due("there and back", x.touched(), 1);
        check.due("not stale", x.stale(), 0);
        x.setCorner(0, 0, 2);
        check.due("once, however often", x.touched(), 1);
        x.setSeed(1);
        check.due("all", x.touched(), 9);
        x.setSeed(0);
        check.due("all, not more", x.touched(), 9);
        check.due("one of them is stale", x.paint(), 1);
    }

    private static void paintCountsStaleOnes() {
        check.says("Returns how many of them were stale.");
        TerrainTiler x = painted(10, 10, 0);
        check.due("none touched", x.paint(), 0);
        x.setSeed(1);
        check.due("touched, none stale", x.paint(), 0);
        x.setCorner(5, 5, 1);
        check.due("all touched are stale", x.paint(), 4);
        x.setCorner(5, 5, 0);
        x.setBorder(true);
        check.due("some touched are stale", x.paint(), 4);
        x.fill(0, 0, 10, 10, 1);
        check.due("all of the largest map", x.paint(), 100);
    }

    private static void paintAllSizes() {
        check.says("Paints all touched cells as they should be; then no cell is touched.");
        for (int[] size : SIZES) {
            TerrainTiler x = Check.begun(size[0], size[1], 3);
            x.raise(0, 0, 5);
            x.setPath(0, 0, true);
            check.due("paint", x.paint(), size[0] * size[1]);
            check.due("touched", x.touched(), 0);
            check.due("stale", x.stale(), 0);
            for (int i = 0; i < size[0] * size[1]; i++) {
                int column = i % size[0];
                int row = i / size[0];
                check.due("painted", x.painted(column, row), x.pieces(column, row));
            }
        }
    }

    private static void paintOneCell() {
        check.says("Paints one cell as it should be; it is not touched then.");
        for (int[] size : SIZES) {
            TerrainTiler x = Check.begun(size[0], size[1], 3);
            int all = size[0] * size[1];
            check.due("paintCell", x.paintCell(size[0] - 1, size[1] - 1), 1);
            check.due("touched", x.touched(), all - 1);
            check.due("stale", x.stale(), all - 1);
            check.due("isStale", x.isStale(size[0] - 1, size[1] - 1), 0);
            check.due("painted", x.painted(size[0] - 1, size[1] - 1), 1);
            check.due("the others", x.paint(), all - 1);
        }
    }

    private static void paintCellThatIsNotTouched() {
        check.says("Returns 1 if it was stale, else 0; BAD_INDEX if there is no such cell.");
        TerrainTiler x = Check.begun(2, 2, 0);
        check.due("stale", x.paintCell(0, 0), 1);
        check.due("neither stale nor touched", x.paintCell(0, 0), 0);
        check.due("touched", x.touched(), 3);
        x.setSeed(3);
        check.due("touched, not stale", x.paintCell(0, 0), 0);
        check.due("touched", x.touched(), 3);
        for (int bad : new int[] {LOW, -1, 2, HIGH}) {
            check.due("no such cell", x.paintCell(bad, 0), BAD_INDEX);
            check.due("no such cell", x.paintCell(0, bad), BAD_INDEX);
        }
        check.due("touched", x.touched(), 3);
    }

    private static void noKinds() {
        check.says("Returns how many kinds of pieces are painted");
        TerrainTiler x = new TerrainTiler();
        check.due("none", x.kinds(), 0);
        check.due("none", x.kind(0, 0), BAD_INDEX);
        x.setPath(0, 0, true);
        x.paintCell(0, 0);
        check.due("one; a path tile is no piece", x.kinds(), 1);
        x.fill(0, 0, 4, 4, 1);
        check.due("what is painted counts, not what should be", x.kind(0, 0), 0);
        x.paint();
        check.due("what was painted before is gone", x.kinds(), 1);
        check.due("its terrain", x.kind(0, 0), 1);
    }

    private static void equalProperties() {
        check.says("pieces with equal properties are of one kind.");
        check.due("one kind in all cells", kindsOf("11a/11a", x -> { }), 1);
        check.due("by the terrain", kindsOf("aab/aab", x -> { }), 2);
        check.due("by the tile", kindsOf("aaab/aaaa", x -> x.setTiles(1, 65535)), 2);
        check.due("by the tile", kindsOf("aba/aaa", x -> { }), 3);
        check.due("by the way", kindsOf("aba/aaa", x -> x.setTiles(1, 2)), 3);
        check.due("by the variant", kindsOf("11a/11a/11a/11a", x -> x.setVariants(0, 2)), 2);
    }

    private static int kindsOf(String text, Consumer<TerrainTiler> setting) {
        TerrainTiler x = Check.loaded(text);
        setting.accept(x);
        x.paint();
        return x.kinds();
    }

    /** The largest map, painted with very many kinds of pieces. */
    private static TerrainTiler colourful() {
        TerrainTiler x = Check.begun(10, 10, 0);
        Random random = new Random(1);
        for (int i = 0; i < 121; i++) {
            x.setCorner(i % 11, i / 11, random.nextInt(6));
        }
        for (int t = 0; t < 6; t++) {
            x.setVariants(t, 8);
            x.setTiles(t, random.nextInt(65536));
        }
        x.paint();
        return x;
    }

    private static void mostKinds() {
        check.says("Kinds are numbered from 0 in the order of their first pieces");
        Map<List<Integer>, Integer> kinds = new LinkedHashMap<>();
        for (int cell = 0; cell < 100; cell++) {
            TerrainTiler x = colourful();
            for (int i = 0; i < x.pieces(cell % 10, cell / 10); i++) {
                List<Integer> piece = new ArrayList<>();
                for (int what = 0; what < 4; what++) {
                    piece.add(x.piece(cell % 10, cell / 10, i, what));
                }
                kinds.merge(piece, 1, Integer::sum);
            }
        }
        check.holds("very many kinds, not " + kinds.size() + ":", kinds.size() > 64);
        check.due("kinds", colourful().kinds(), kinds.size());
        int kind = 0;
        for (List<Integer> piece : kinds.keySet()) {
            TerrainTiler x = colourful();
            for (int what = 0; what < 4; what++) {
                check.due("kind " + kind + ", " + what, x.kind(kind, what), piece.get(what));
            }
            check.due("kind " + kind + ", how many", x.kind(kind, 4), kinds.get(piece));
            kind++;
        }
    }

    private static void kind(TerrainTiler x, int kind, int... want) {
        for (int what = 0; what < 5; what++) {
            check.due("kind " + kind + ", " + what, x.kind(kind, what), want[what]);
        }
    }

    private static void orderOfKinds() {
        check.says("by rows from above, in each row from the left, in each cell by indexes.");
        TerrainTiler x = Check.loaded("bab/aaa/cac");
        x.paint();
        check.due("kinds", x.kinds(), 5);
        kind(x, 0, 0, 15, 0, 0, 4);
        kind(x, 1, 1, 1, 0, 0, 1);
        kind(x, 2, 1, 2, 0, 0, 1);
        kind(x, 3, 2, 4, 0, 0, 1);
        kind(x, 4, 2, 8, 0, 0, 1);
        TerrainTiler late = Check.begun(2, 2, 0);
        late.paintCell(1, 1);
        late.fill(0, 0, 1, 0, 1);
        late.paintCell(1, 0);
        check.due("by place, not by time", late.kinds(), 2);
        kind(late, 0, 0, 15, 0, 0, 2);
        kind(late, 1, 1, 1, 0, 0, 1);
        late.fill(0, 0, 2, 2, 5);
        late.paintCell(0, 0);
        kind(late, 0, 5, 15, 0, 0, 1);
        kind(late, 1, 0, 15, 0, 0, 2);
        kind(late, 2, 1, 1, 0, 0, 1);
    }

    private static void howManyThereAre() {
        check.says("0 to 3 the properties of its pieces, as for piece(); 4 how many there are");
        TerrainTiler x = painted(10, 10, 5);
        kind(x, 0, 5, 15, 0, 0, 100);
        kind(painted(10, 1, 5), 0, 5, 15, 0, 0, 10);
        kind(painted(1, 10, 5), 0, 5, 15, 0, 0, 10);
        TerrainTiler one = Check.begun(1, 1, 5);
        one.paint();
        kind(one, 0, 5, 15, 0, 0, 1);
        TerrainTiler least = Check.loaded("ab/bb");
        least.setRank(0, 5);
        least.paint();
        kind(least, 0, 1, 15, 0, 0, 1);
        kind(least, 1, 0, 1, 0, 0, 1);
        check.due("asked again", least.kinds(), 2);
        TerrainTiler most = Check.loaded("fa/2f");
        most.setVariants(0, 8);
        most.setTiles(5, 1 << 7);
        most.paint();
        kind(most, 1, 5, 7, 2, 0, 1);
        TerrainTiler both = Check.loaded("ab/bb");
        both.setTiles(1, 1 << 1);
        both.paint();
        kind(both, 0, 0, 15, 0, 0, 1);
        kind(both, 1, 1, 1, 1, 0, 1);
        kind(both, 2, 1, 1, 2, 0, 1);
        kind(both, 3, 1, 1, 3, 0, 1);
    }

    private static void noSuchKind() {
        check.says("Returns the property; BAD_INDEX if there is no such kind; BAD_VALUE if what is out of "
                + "range.");
        TerrainTiler x = Check.loaded("bab/aaa/cac");
        for (int many : new int[] {0, 5}) {
            for (int bad : new int[] {LOW, -2, -1, many, many + 1, HIGH}) {
                for (int what : new int[] {LOW, -1, 0, 4, 5, HIGH}) {
                    check.due("kind " + bad + " of " + many, x.kind(bad, what), BAD_INDEX);
                }
            }
            x.paint();
        }
    }

    private static void kindPropertyOutOfRange() {
        check.says("BAD_VALUE if what is out of range.");
        TerrainTiler x = Check.loaded("bab/aaa/cac");
        x.paint();
        for (int bad : new int[] {LOW, -2, -1, 5, 6, HIGH}) {
            check.due("the first kind", x.kind(0, bad), BAD_VALUE);
            check.due("the last kind", x.kind(4, bad), BAD_VALUE);
        }
    }
}
