import java.util.ArrayList;
import java.util.List;

/** Promises 14 to 21: each sentence on settings, ways and parts that names a boundary case. */
public final class SettingsEdgesTest {
    private static final int BAD_INDEX = TerrainTiler.BAD_INDEX, BAD_VALUE = TerrainTiler.BAD_VALUE;
    private static final int NONE = TerrainTiler.NONE;
    private static final int LOW = Integer.MIN_VALUE, HIGH = Integer.MAX_VALUE;
    private static final int[] NO_TERRAIN = {LOW, -2, -1, 6, 7, HIGH};
    private static final int[] NO_MASK = {LOW, -1, 0, 16, 17, HIGH};
    private static final int ALL = 65534, FULL_TILE = 32768;
    private static final Check check = new Check("SettingsEdgesTest");

    public static void main(String[] args) {
        ranksAtFirst();
        ranksMoved();
        rankThatItHad();
        ranksOutOfRange();
        setsOfAllSizes();
        bits0And15();
        previousSet();
        setsOutOfRange();
        variantsFrom1To8();
        variantsOutOfRange();
        anySeed();
        borderBefore();
        fullTileAlways();
        allTilesAtFirst();
        fourWays();
        lowestWay();
        wayOrNone();
        masksOutOfRange();
        asFewAsPossible();
        eachAPart();
        lexicographicallyFirst();
        ascendingOrder();
        fullTileInstead();
        partsOfTheFullMask();
        check.end();
    }

    private static void ranksAtFirst() {
        check.says("(at first the rank of terrain t is t)");
        for (int t = 0; t < 6; t++) {
            check.due("rank", new TerrainTiler().rank(t), t);
        }
    }

    private static void ranks(String what, TerrainTiler x, List<Integer> order) {
        for (int t = 0; t < 6; t++) {
            check.due(what + ": rank(" + t + ")", x.rank(t), order.indexOf(t));
        }
    }

    private static void ranksMoved() {
        check.says("it is taken out of the order of ranks, and put in again at this place; the others "
                + "keep their order.");
        for (int t = 0; t < 6; t++) {
            for (int rank = 0; rank < 6; rank++) {
                TerrainTiler x = new TerrainTiler();
                List<Integer> order = new ArrayList<>(List.of(0, 1, 2, 3, 4, 5));
                int[][] moves = {{4, 1}, {0, 5}, {t, rank}, {2, 0}, {t, 5 - rank}};
                for (int[] move : moves) {
                    x.setRank(move[0], move[1]);
                    order.remove(Integer.valueOf(move[0]));
                    order.add(move[1], move[0]);
                    ranks(t + " to " + rank, x, order);
                }
            }
        }
    }

    private static void rankThatItHad() {
        check.says("Returns the rank that it had; BAD_INDEX if there is no such terrain; BAD_VALUE if "
                + "rank is out of range.");
        TerrainTiler x = new TerrainTiler();
        check.due("to the highest", x.setRank(0, 5), 0);
        check.due("to the lowest", x.setRank(0, 0), 5);
        check.due("to the highest, where it is", x.setRank(5, 5), 5);
        check.due("to the lowest", x.setRank(5, 0), 5);
        check.due("moved by the others", x.setRank(0, 0), 1);
    }

    private static void ranksOutOfRange() {
        check.says("BAD_VALUE if rank is out of range.");
        for (int bad : new int[] {LOW, -1, 6, 7, HIGH}) {
            for (int t = 0; t < 6; t++) {
                TerrainTiler x = new TerrainTiler();
                check.due("setRank", x.setRank(t, bad), BAD_VALUE);
                ranks("refused", x, List.of(0, 1, 2, 3, 4, 5));
            }
            for (int none : NO_TERRAIN) {
                check.due("both", new TerrainTiler().setRank(none, bad), BAD_INDEX);
            }
        }
        for (int none : NO_TERRAIN) {
            check.due("setRank", new TerrainTiler().setRank(none, 0), BAD_INDEX);
            check.due("rank", new TerrainTiler().rank(none), BAD_INDEX);
        }
    }

    private static void setsOfAllSizes() {
        check.says("the sum of 2^m for each mask m with a tile, 0 to 65535");
        for (int t = 0; t < 6; t++) {
            TerrainTiler x = new TerrainTiler();
            check.due("the smallest", x.setTiles(t, 0), ALL);
            check.due("the largest", x.setTiles(t, 65535), FULL_TILE);
            for (int mask = 1; mask < 15; mask++) {
                check.due("before one mask", x.setTiles(t, 1 << mask), ALL);
                check.due("that it has a tile", x.way(t, mask), 0);
                check.due("one mask", x.setTiles(t, 65535 - (1 << mask)), 1 << mask | FULL_TILE);
                check.due("all but one", x.setTiles(t, 65535), ALL - (1 << mask));
            }
        }
    }

    private static void bits0And15() {
        check.says("bit 0 is taken as 0, and bit 15 as 1 (a set that differs in these alone is no change)");
        int[] sets = {0, 1, 32768, 32769};
        for (int within : new int[] {0, 6, 32766}) {
            for (int first : sets) {
                for (int next : sets) {
                    TerrainTiler x = new TerrainTiler();
                    x.setTiles(3, within | first);
                    x.paint();
                    check.due("setTiles", x.setTiles(3, within | next), within | FULL_TILE);
                    check.due("no change", x.touched(), 0);
                    check.due("the full tile", x.way(3, 15), 0);
                    check.due("setTiles", x.setTiles(3, within | first), within | FULL_TILE);
                }
            }
        }
        TerrainTiler x = new TerrainTiler();
        x.paint();
        check.due("all at first", x.setTiles(0, 32767), ALL);
        check.due("no change", x.touched(), 0);
        check.due("without one", x.setTiles(0, 65533), ALL);
        check.due("a change", x.touched(), 16);
    }

    private static void previousSet() {
        check.says("Returns the previous set, with bit 0 as 0 and bit 15 as 1");
        TerrainTiler x = new TerrainTiler();
        for (int t = 0; t < 6; t++) {
            check.due("at first", x.setTiles(t, 2 * t + 1), ALL);
        }
        for (int t = 0; t < 6; t++) {
            check.due("each its own", x.setTiles(t, 65535), 2 * t | FULL_TILE);
        }
    }

    private static void setsOutOfRange() {
        check.says("BAD_VALUE if set is out of range.");
        for (int bad : new int[] {LOW, -32768, -1, 65536, 65537, HIGH}) {
            TerrainTiler x = new TerrainTiler();
            check.due("setTiles", x.setTiles(0, bad), BAD_VALUE);
            check.due("the set stays", x.setTiles(0, 0), ALL);
            for (int none : NO_TERRAIN) {
                check.due("both", x.setTiles(none, bad), BAD_INDEX);
            }
        }
        for (int none : NO_TERRAIN) {
            check.due("setTiles", new TerrainTiler().setTiles(none, 0), BAD_INDEX);
        }
    }

    private static void variantsFrom1To8() {
        check.says("Sets the number of variants of a terrain.");
        for (int t = 0; t < 6; t++) {
            TerrainTiler x = new TerrainTiler();
            int had = 1;
            for (int many : new int[] {1, 8, 8, 2, 7, 1}) {
                check.due("setVariants(" + t + ", " + many + ")", x.setVariants(t, many), had);
                had = many;
            }
            check.due("another's", x.setVariants((t + 1) % 6, 5), 1);
        }
    }

    private static void variantsOutOfRange() {
        check.says("BAD_VALUE if many is out of range.");
        for (int bad : new int[] {LOW, -1, 0, 9, 10, HIGH}) {
            TerrainTiler x = new TerrainTiler();
            check.due("setVariants", x.setVariants(5, bad), BAD_VALUE);
            check.due("the number stays", x.setVariants(5, 1), 1);
            for (int none : NO_TERRAIN) {
                check.due("both", x.setVariants(none, bad), BAD_INDEX);
            }
        }
        for (int none : NO_TERRAIN) {
            check.due("setVariants", new TerrainTiler().setVariants(none, 1), BAD_INDEX);
        }
    }

    private static void anySeed() {
        check.says("any int");
        TerrainTiler x = new TerrainTiler();
        check.due("as at first", x.setSeed(0), 0);
        for (int seed : new int[] {1, -1, LOW, HIGH, LOW + 1, -2, -3, -4, -5, 0}) {
            check.due("setSeed(" + seed + ")", x.setSeed(seed), 1);
            check.due("again", x.setSeed(seed), 0);
        }
    }

    private static void borderBefore() {
        check.says("Returns 1 if it had before, else 0.");
        TerrainTiler x = new TerrainTiler();
        check.due("as at first", x.setBorder(false), 0);
        check.due("on", x.setBorder(true), 0);
        check.due("on again", x.setBorder(true), 1);
        check.due("off", x.setBorder(false), 1);
        check.due("off again", x.setBorder(false), 0);
    }

    private static void fullTileAlways() {
        check.says("15 is always in it.");
        for (int set : new int[] {0, 1, 2, 32767, 32768, 65535}) {
            TerrainTiler x = new TerrainTiler();
            x.setTiles(2, set);
            check.due("way", x.way(2, 15), 0);
            check.due("parts", x.parts(2, 15), 1);
        }
    }

    private static void allTilesAtFirst() {
        check.says("At first the set has all of them.");
        TerrainTiler x = new TerrainTiler();
        for (int t = 0; t < 6; t++) {
            for (int mask = 1; mask <= 15; mask++) {
                check.due("way", x.way(t, mask), 0);
                check.due("parts", x.parts(t, mask), 1);
            }
        }
    }

    /** The masks 1 to 15 by ways 1 and 2; way 3 is way 2 of way 1. */
    private static final int[] WAY1 = {2, 1, 3, 8, 10, 9, 11, 4, 6, 5, 7, 12, 14, 13, 15};
    private static final int[] WAY2 = {4, 8, 12, 1, 5, 9, 13, 2, 6, 10, 14, 3, 7, 11, 15};

    private static int flipped(int mask, int way) {
        int m = way % 2 == 1 ? WAY1[mask - 1] : mask;
        return way >= 2 ? WAY2[m - 1] : m;
    }

    private static void fourWays() {
        check.says("way 0 leaves it; way 1 exchanges the bits 0 and 1, and 2 and 3; way 2 exchanges the "
                + "bits 0 and 2, and 1 and 3; way 3 does both.");
        for (int tile = 1; tile < 15; tile++) {
            TerrainTiler x = new TerrainTiler();
            x.setTiles(0, 1 << tile);
            for (int mask = 1; mask < 15; mask++) {
                int want = NONE;
                for (int way = 3; way >= 0; way--) {
                    want = flipped(mask, way) == tile ? way : want;
                }
                check.due("way of " + mask + " by " + tile, x.way(0, mask), want);
            }
        }
    }

    private static void lowestWay() {
        check.says("the lowest such way is taken.");
        TerrainTiler x = new TerrainTiler();
        int[][] rows = {
            {1 << 1 | 1 << 2 | 1 << 4 | 1 << 8, 0, 0, 0, 0}, {1 << 2 | 1 << 4 | 1 << 8, 1, 0, 0, 0},
            {1 << 4 | 1 << 8, 2, 2, 0, 0}, {1 << 1 | 1 << 8, 0, 1, 1, 0}, {1 << 8, 3, 2, 1, 0},
            {1 << 1 | 1 << 2, 0, 0, 2, 2}, {1 << 2 | 1 << 8, 1, 0, 1, 0}
        };
        for (int[] row : rows) {
            x.setTiles(1, row[0]);
            for (int bit = 0; bit < 4; bit++) {
                check.due("way of bit " + bit, x.way(1, 1 << bit), row[bit + 1]);
            }
        }
        x.setTiles(1, 1 << 9);
        check.due("a diagonal stays by way 0", x.way(1, 9), 0);
        check.due("the other by way 1", x.way(1, 6), 1);
        x.setTiles(1, 1 << 3);
        check.due("a side", x.way(1, 3), 0);
        check.due("the side across by way 2", x.way(1, 12), 2);
        x.setTiles(1, 1 << 5);
        check.due("the side across by way 1", x.way(1, 10), 1);
    }

    private static void wayOrNone() {
        check.says("Returns the way, 0 to 3; NONE if it cannot be drawn; BAD_INDEX if there is no such "
                + "terrain; BAD_VALUE if mask is out of range.");
        TerrainTiler x = new TerrainTiler();
        x.setTiles(5, 0);
        for (int mask = 1; mask < 15; mask++) {
            check.due("way", x.way(5, mask), NONE);
        }
        for (int bad : NO_MASK) {
            check.due("an error is before NONE", x.way(5, bad), BAD_VALUE);
        }
    }

    private static void masksOutOfRange() {
        check.says("`mask`: 1 to 15");
        for (int t = 0; t < 6; t++) {
            TerrainTiler x = new TerrainTiler();
            check.due("the first", x.way(t, 1), 0);
            check.due("the last", x.way(t, 15), 0);
            for (int bad : NO_MASK) {
                check.due("way(" + bad + ")", x.way(t, bad), BAD_VALUE);
                check.due("parts(" + bad + ")", x.parts(t, bad), BAD_VALUE);
            }
        }
        for (int none : NO_TERRAIN) {
            TerrainTiler x = new TerrainTiler();
            check.due("way", x.way(none, 1), BAD_INDEX);
            check.due("parts", x.parts(none, 1), BAD_INDEX);
            for (int bad : NO_MASK) {
                check.due("both", x.way(none, bad), BAD_INDEX);
                check.due("both", x.parts(none, bad), BAD_INDEX);
            }
        }
    }

    /** That terrain 1, with these tiles, draws the mask by these masks: a piece each. */
    private static void drawn(int mask, int[] tiles, int... masks) {
        TerrainTiler x = Check.begun(1, 1, 0);
        int set = 0;
        for (int tile : tiles) {
            set |= 1 << tile;
        }
        x.setTiles(1, set);
        for (int bit = 0; bit < 4; bit++) {
            x.setCorner(bit % 2, bit / 2, mask >> bit & 1);
        }
        String name = "mask " + mask + " with set " + set;
        check.due("parts of " + name, x.parts(1, mask), masks.length);
        check.due("pieces of " + name, x.pieces(0, 0), 1 + masks.length);
        for (int i = 0; i < masks.length; i++) {
            int way = x.way(1, masks[i]);
            check.due("tile of " + name, x.piece(0, 0, i + 1, 1), flipped(masks[i], Math.max(way, 0)));
            check.due("way of " + name, x.piece(0, 0, i + 1, 2), way);
            check.due("terrain of " + name, x.piece(0, 0, i + 1, 0), 1);
        }
    }

    private static int[] tiles(int... tiles) {
        return tiles;
    }

    private static void asFewAsPossible() {
        check.says("which together have all bits of m, with as few masks as possible");
        drawn(7, tiles(1, 3, 7), 7);
        drawn(7, tiles(1, 11), 7);
        drawn(7, tiles(1), 1, 2, 4);
        drawn(7, tiles(1, 3), 3, 4);
        drawn(7, tiles(1, 5), 2, 5);
        drawn(7, tiles(1, 6), 1, 6);
        drawn(3, tiles(1, 5), 1, 2);
        drawn(14, tiles(8), 2, 4, 8);
    }

    private static void eachAPart() {
        check.says("each of which is a part of m (all its bits are bits of m, and it is not 0)");
        drawn(3, tiles(1, 7), 1, 2);
        drawn(3, tiles(5, 6, 7, 15), 15);
        drawn(9, tiles(1, 3, 5, 7), 1, 8);
        drawn(12, tiles(0, 1, 5, 9), 4, 8);
        drawn(6, tiles(0, 3, 5, 7), 15);
        drawn(8, tiles(3, 5, 7, 9, 11), 15);
    }

    private static void lexicographicallyFirst() {
        check.says("of several such sets the one whose masks, in ascending order, are lexicographically "
                + "first.");
        drawn(7, tiles(1, 3, 5, 6), 1, 6);
        drawn(7, tiles(1, 3, 5), 2, 5);
        drawn(7, tiles(3, 5, 6), 3, 5);
        drawn(7, tiles(3, 5), 3, 5);
        drawn(7, tiles(5, 6), 5, 6);
        drawn(7, tiles(3, 6), 3, 6);
        drawn(11, tiles(1, 3, 5, 9), 1, 10);
        drawn(11, tiles(3, 5, 9), 3, 9);
        drawn(11, tiles(1, 3, 9), 2, 9);
        drawn(13, tiles(1, 3, 5, 9), 1, 12);
        drawn(13, tiles(1, 5, 9), 4, 9);
        drawn(14, tiles(1, 3, 5, 6), 2, 12);
        drawn(14, tiles(1, 5, 6), 4, 10);
        drawn(14, tiles(3, 5, 9), 6, 10);
        drawn(14, tiles(3, 9), 6, 12);
    }

    private static void ascendingOrder() {
        check.says("Its masks are drawn by one piece each, in ascending order.");
        TerrainTiler x = Check.loaded("ab/bb");
        x.setTiles(1, 1 << 1);
        int[] ways = {1, 2, 3};
        for (int i = 0; i < 3; i++) {
            check.due("tile", x.piece(0, 0, 1 + i, 1), 1);
            check.due("way", x.piece(0, 0, 1 + i, 2), ways[i]);
        }
        x.setTiles(1, 1 << 2 | 1 << 12);
        check.due("tile of 2", x.piece(0, 0, 1, 1), 2);
        check.due("way of 2", x.piece(0, 0, 1, 2), 0);
        check.due("tile of 12", x.piece(0, 0, 2, 1), 12);
        check.due("way of 12", x.piece(0, 0, 2, 2), 0);
    }

    private static void fullTileInstead() {
        check.says("If there is no such set, 15 is drawn instead of m.");
        for (int mask = 1; mask < 15; mask++) {
            drawn(mask, tiles(), 15);
        }
        drawn(7, tiles(3), 15);
        drawn(7, tiles(9), 15);
        drawn(1, tiles(3, 7), 15);
        drawn(13, tiles(3), 15);
        drawn(14, tiles(5), 15);
    }

    private static void partsOfTheFullMask() {
        check.says("Returns the number, 1 also if 15 is drawn instead");
        TerrainTiler x = new TerrainTiler();
        x.setTiles(0, 0);
        for (int mask = 1; mask <= 15; mask++) {
            check.due("15 instead", x.parts(0, mask), 1);
        }
        x.setTiles(0, 2);
        int[] want = {1, 1, 2, 1, 2, 2, 3, 1, 2, 2, 3, 2, 3, 3, 1};
        for (int mask = 1; mask <= 15; mask++) {
            check.due("by corners", x.parts(0, mask), want[mask - 1]);
        }
    }
}
