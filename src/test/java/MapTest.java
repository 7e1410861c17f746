/** Promises 1 to 13: a new object, the map, its corners and its paths. */
public final class MapTest {
    private static final int BAD_INDEX = TerrainTiler.BAD_INDEX, BAD_VALUE = TerrainTiler.BAD_VALUE;
    private static final int NONE = TerrainTiler.NONE;
    private static final int LOW = Integer.MIN_VALUE, HIGH = Integer.MAX_VALUE;
    private static final Check check = new Check("MapTest");

    public static void main(String[] args) {
        promise1();
        promise2();
        promise3();
        promise4();
        promise5();
        promise6();
        promise7();
        promise8();
        promise9();
        promise10and11();
        promise12();
        promise13();
        check.end();
    }

    private static void promise1() {
        TerrainTiler x = new TerrainTiler();
        check.due("w", x.size(0), 4);
        check.due("h", x.size(1), 4);
        check.due("paths", x.size(2), 0);
        for (int i = 0; i < 25; i++) {
            check.due("corner", x.corner(i % 5, i / 5), 0);
        }
        for (int t = 0; t < 6; t++) {
            check.due("rank", x.rank(t), t);
            for (int mask = 1; mask < 16; mask++) {
                check.due("way", x.way(t, mask), 0);
                check.due("parts", x.parts(t, mask), 1);
            }
        }
        check.due("touched", x.touched(), 16);
        check.due("stale", x.stale(), 16);
        check.due("painted", x.painted(3, 3), 0);
        check.due("kinds", x.kinds(), 0);
        check.due("undo", x.undo(), TerrainTiler.BAD_STATE);
        check.due("written", x.written(0), BAD_INDEX);
        check.due("clearText", x.clearText(), 0);
        for (int t = 0; t < 6; t++) {
            check.due("setTiles", x.setTiles(t, 65535), 65534);
            check.due("setVariants", x.setVariants(t, 1), 1);
        }
        check.due("setSeed", x.setSeed(0), 0);
        check.due("setBorder", x.setBorder(false), 0);
    }

    private static void promise2() {
        TerrainTiler x = new TerrainTiler();
        x.setPath(0, 0, true);
        x.paint();
        x.setRank(0, 3);
        x.setBorder(true);
        check.due("begin", x.begin(10, 1, 5), 10);
        check.due("corner", x.corner(10, 1), 5);
        check.due("corner", x.corner(0, 2), BAD_INDEX);
        check.due("paths", x.size(2), 0);
        check.due("painted", x.painted(0, 0), 0);
        check.due("touched", x.touched(), 10);
        check.due("stale", x.stale(), 10);
        check.due("the settings stay", x.rank(0), 3);
        check.due("the border stays", x.setBorder(true), 1);
        check.due("begin", x.begin(10, 10, 0), 100);
        check.due("touched", x.touched(), 100);
        check.due("begin", x.begin(1, 1, 2), 1);
        check.due("touched", x.touched(), 1);
        x.paint();
        check.due("begin as it is", x.begin(1, 1, 2), 1);
        check.due("touched", x.touched(), 1);
        check.due("painted", x.painted(0, 0), 0);
        long before = x.digest();
        for (int bad : new int[] {LOW, -1, 0, 11, HIGH}) {
            check.refused("begin w", x, before, x.begin(bad, 1, 0), BAD_VALUE);
            check.refused("begin h", x, before, x.begin(1, bad, 0), BAD_VALUE);
            check.refused("begin both", x, before, x.begin(1, bad, 6), BAD_INDEX);
        }
        check.refused("begin terrain", x, before, x.begin(1, 1, 6), BAD_INDEX);
        check.refused("begin terrain", x, before, x.begin(1, 1, -1), BAD_INDEX);
        check.due("undo", x.undo(), 4);
        check.due("painted before begin", x.painted(0, 0), 1);
    }

    private static void promise3() {
        TerrainTiler x = new TerrainTiler();
        x.begin(7, 3, 1);
        x.setPath(6, 2, true);
        x.setPath(0, 0, true);
        x.setPath(0, 0, true);
        check.due("size(0)", x.size(0), 7);
        check.due("size(1)", x.size(1), 3);
        check.due("size(2)", x.size(2), 2);
        x.setPath(0, 0, false);
        check.due("size(2)", x.size(2), 1);
        x.begin(10, 10, 0);
        x.setPath(0, 5, true);
        x.setPath(9, 9, true);
        check.due("the largest w", x.size(0), 10);
        check.due("the largest h", x.size(1), 10);
        check.due("size(2)", x.size(2), 2);
        for (int bad : new int[] {LOW, -1, 3, HIGH}) {
            check.due("size", x.size(bad), BAD_VALUE);
        }
    }

    private static void promise4() {
        TerrainTiler x = new TerrainTiler();
        x.begin(3, 3, 0);
        x.paint();
        check.due("setCorner", x.setCorner(0, 0, 5), 0);
        check.due("touched", x.touched(), 1);
        check.due("setCorner", x.setCorner(3, 1, 2), 0);
        check.due("touched", x.touched(), 3);
        check.due("setCorner", x.setCorner(1, 1, 4), 0);
        check.due("touched", x.touched(), 6);
        x.paint();
        check.due("setCorner", x.setCorner(1, 1, 4), 4);
        check.due("touched", x.touched(), 0);
        check.due("setCorner", x.setCorner(1, 1, 3), 4);
        check.due("corner", x.corner(1, 1), 3);
        check.due("recorded", x.undo(), 4);
        check.due("corner", x.corner(1, 1), 4);
        check.due("touched", x.touched(), 0);
        check.due("recorded without a change", x.undo(), 3);
        check.due("touched", x.touched(), 0);
        long before = x.digest();
        for (int bad : new int[] {LOW, -1, 4, HIGH}) {
            check.refused("setCorner x", x, before, x.setCorner(bad, 0, 1), BAD_INDEX);
            check.refused("setCorner y", x, before, x.setCorner(0, bad, 1), BAD_INDEX);
        }
        for (int bad : new int[] {LOW, -1, 6, HIGH}) {
            check.refused("setCorner terrain", x, before, x.setCorner(0, 0, bad), BAD_INDEX);
        }
        check.due("errors are not recorded", x.undo(), 2);
    }

    private static void promise5() {
        TerrainTiler x = Check.loaded("abc/def");
        for (int i = 0; i < 6; i++) {
            check.due("corner", x.corner(i % 3, i / 3), i);
        }
        for (int bad : new int[] {LOW, -1, HIGH}) {
            check.due("corner", x.corner(bad, 0), BAD_INDEX);
            check.due("corner", x.corner(0, bad), BAD_INDEX);
        }
        check.due("corner", x.corner(3, 0), BAD_INDEX);
        check.due("corner", x.corner(0, 2), BAD_INDEX);
    }

    private static void promise6() {
        TerrainTiler x = new TerrainTiler();
        x.setCorner(1, 1, 2);
        x.paint();
        check.due("fill", x.fill(2, 3, 1, 1, 2), 5);
        check.due("corner", x.corner(2, 3), 2);
        check.due("corner", x.corner(1, 2), 2);
        check.due("corner", x.corner(3, 3), 0);
        check.due("corner", x.corner(1, 0), 0);
        check.due("touched, not by (1, 1)", x.touched(), 11);
        x.paint();
        check.due("fill", x.fill(1, 3, 2, 1, 2), 0);
        check.due("touched", x.touched(), 0);
        check.due("fill one", x.fill(4, 4, 4, 4, 5), 1);
        check.due("touched", x.touched(), 1);
        check.due("fill all", x.fill(0, 4, 4, 0, 5), 24);
        check.due("recorded", x.undo(), 4);
        check.due("corner", x.corner(0, 0), 0);
        long before = x.digest();
        for (int bad : new int[] {LOW, -1, 5, HIGH}) {
            check.refused("fill", x, before, x.fill(bad, 0, 0, 0, 1), BAD_INDEX);
            check.refused("fill", x, before, x.fill(0, bad, 0, 0, 1), BAD_INDEX);
            check.refused("fill", x, before, x.fill(0, 0, bad, 0, 1), BAD_INDEX);
            check.refused("fill", x, before, x.fill(0, 0, 0, bad, 1), BAD_INDEX);
        }
        check.refused("fill", x, before, x.fill(0, 0, 0, 0, 6), BAD_INDEX);
        check.refused("fill", x, before, x.fill(0, 0, 0, 0, -1), BAD_INDEX);
        check.due("errors are not recorded", x.undo(), 3);
    }

    private static void promise7() {
        TerrainTiler x = Check.loaded("aba/bba/aab");
        x.paint();
        check.due("flood goes no diagonals", x.flood(0, 0, 2), 1);
        check.due("corner", x.corner(0, 2), 0);
        check.due("touched", x.touched(), 1);
        check.due("flood", x.flood(1, 1, 0), 3);
        check.due("written", Check.written(x).equals("c2a/3a/2ab") ? 1 : 0, 1);
        check.due("flood with its own terrain", x.flood(2, 0, 0), 0);
        check.due("flood joined", x.flood(0, 2, 5), 7);
        check.due("written", Check.written(x).equals("c2f/3f/2fb") ? 1 : 0, 1);
        check.due("recorded", x.undo(), 4);
        check.due("corner", x.corner(0, 2), 0);
        check.due("recorded without a change", x.undo(), 3);
        long before = x.digest();
        check.refused("flood", x, before, x.flood(3, 0, 1), BAD_INDEX);
        check.refused("flood", x, before, x.flood(0, 3, 1), BAD_INDEX);
        check.refused("flood", x, before, x.flood(LOW, HIGH, 1), BAD_INDEX);
        check.refused("flood", x, before, x.flood(0, 0, 6), BAD_INDEX);
        check.refused("flood", x, before, x.flood(0, 0, -1), BAD_INDEX);
        TerrainTiler large = new TerrainTiler();
        large.begin(10, 10, 3);
        check.due("flood all", large.flood(5, 5, 4), 121);
        check.due("flood again", large.flood(0, 0, 1), 121);
        check.due("flood again", large.flood(0, 0, 2), 121);
        TerrainTiler snake = Check.loaded("5a/4ba/5a/a4b/5a");
        check.due("flood a snake", snake.flood(0, 0, 5), 17);
    }

    private static void promise8() {
        TerrainTiler x = new TerrainTiler();
        x.begin(10, 1, 0);
        check.due("raise", x.raise(0, 0, 5), 10);
        check.due("a slope", Check.written(x).equals("fedcb6a/2edcb6a") ? 1 : 0, 1);
        x.fill(0, 0, 10, 1, 5);
        x.paint();
        check.due("a pit", x.raise(5, 0, 0), 18);
        check.due("a pit", Check.written(x).equals("fedcbabcdef/fedc3bcdef") ? 1 : 0, 1);
        check.due("touched", x.touched(), 10);
        x.paint();
        check.due("as it is", x.raise(5, 0, 0), 0);
        check.due("touched", x.touched(), 0);
        TerrainTiler ranked = new TerrainTiler();
        ranked.begin(3, 1, 0);
        ranked.setRank(0, 5);
        check.due("raise by ranks", ranked.raise(0, 0, 1), 8);
        check.due("by ranks", Check.written(ranked).equals("bcde/2cde") ? 1 : 0, 1);
        check.due("recorded", ranked.undo(), 2);
        check.due("corner", ranked.corner(0, 0), 0);
        long before = ranked.digest();
        check.refused("raise", ranked, before, ranked.raise(4, 0, 1), BAD_INDEX);
        check.refused("raise", ranked, before, ranked.raise(0, 2, 1), BAD_INDEX);
        check.refused("raise", ranked, before, ranked.raise(-1, 0, 1), BAD_INDEX);
        check.refused("raise", ranked, before, ranked.raise(0, 0, 6), BAD_INDEX);
        check.refused("raise", ranked, before, ranked.raise(0, 0, -1), BAD_INDEX);
        check.due("errors are not recorded", ranked.undo(), 1);
    }

    private static void promise9() {
        TerrainTiler x = Check.loaded("aba/bab/aba");
        check.due("regions", x.regions(0), 5);
        check.due("regions", x.regions(1), 4);
        check.due("regions", x.regions(2), 0);
        x.setCorner(1, 0, 0);
        check.due("regions", x.regions(0), 3);
        check.due("not recorded", Check.drain(x), 2);
        TerrainTiler plain = new TerrainTiler();
        check.due("regions", plain.regions(0), 1);
        check.due("regions again", plain.regions(0), 1);
        plain.fill(1, 0, 1, 1, 2);
        plain.setCorner(0, 1, 2);
        check.due("regions", plain.regions(0), 2);
        check.due("regions again", plain.regions(0), 2);
        for (int bad : new int[] {LOW, -1, 6, HIGH}) {
            check.due("regions", x.regions(bad), BAD_INDEX);
        }
    }

    private static void promise10and11() {
        TerrainTiler x = new TerrainTiler();
        x.paint();
        check.due("hasPath", x.hasPath(3, 3), 0);
        check.due("setPath", x.setPath(3, 3, true), 0);
        check.due("hasPath", x.hasPath(3, 3), 1);
        check.due("touched", x.touched(), 4);
        check.due("setPath", x.setPath(1, 1, true), 0);
        check.due("touched", x.touched(), 12);
        x.paint();
        check.due("setPath as it is", x.setPath(1, 1, true), 1);
        check.due("setPath as it is", x.setPath(0, 1, false), 0);
        check.due("touched", x.touched(), 0);
        check.due("setPath", x.setPath(3, 3, false), 1);
        check.due("hasPath", x.hasPath(3, 3), 0);
        check.due("touched", x.touched(), 4);
        check.due("recorded", x.undo(), 4);
        check.due("hasPath", x.hasPath(3, 3), 1);
        check.due("recorded without a change", x.undo(), 3);
        long before = x.digest();
        for (int bad : new int[] {LOW, -1, 4, HIGH}) {
            check.refused("setPath", x, before, x.setPath(bad, 0, true), BAD_INDEX);
            check.refused("setPath", x, before, x.setPath(0, bad, true), BAD_INDEX);
            check.due("hasPath", x.hasPath(bad, 0), BAD_INDEX);
            check.due("hasPath", x.hasPath(0, bad), BAD_INDEX);
        }
        check.due("errors are not recorded", x.undo(), 2);
    }

    private static final int[] ASIDE = {0, 1, 1, 1, 0, -1, -1, -1};
    private static final int[] DOWN = {-1, -1, 0, 1, 1, 1, 0, -1};

    /** The rule of the document, for one set of neighbours. */
    private static int maskOf(int near) {
        int mask = 0;
        for (int b = 0; b < 8; b++) {
            boolean has = (near >> b & 1) == 1;
            boolean before = (near >> (b + 7) % 8 & 1) == 1;
            boolean behind = (near >> (b + 1) % 8 & 1) == 1;
            if (has && (b % 2 == 0 || before && behind)) {
                mask += 1 << b;
            }
        }
        return mask;
    }

    private static TerrainTiler around(int near) {
        TerrainTiler x = new TerrainTiler();
        x.begin(3, 3, 0);
        x.setPath(1, 1, true);
        for (int b = 0; b < 8; b++) {
            x.setPath(1 + ASIDE[b], 1 + DOWN[b], (near >> b & 1) == 1);
        }
        return x;
    }

    private static void promise12() {
        for (int near = 0; near < 256; near++) {
            check.due("pathMask near " + near, around(near).pathMask(1, 1), maskOf(near));
        }
        TerrainTiler x = new TerrainTiler();
        check.due("no path", x.pathMask(0, 0), NONE);
        x.setPath(0, 0, true);
        x.setPath(3, 1, true);
        check.due("pathMask", x.pathMask(0, 0), 0);
        x.setBorder(true);
        check.due("at a corner of the map", x.pathMask(0, 0), 1 + 64 + 128);
        check.due("at a side of the map", x.pathMask(3, 1), 4);
        check.due("no path", x.pathMask(1, 0), NONE);
        for (int bad : new int[] {LOW, -1, 4, HIGH}) {
            check.due("pathMask", x.pathMask(bad, 0), BAD_INDEX);
            check.due("pathMask", x.pathMask(0, bad), BAD_INDEX);
        }
        x.begin(1, 1, 0);
        x.setPath(0, 0, true);
        check.due("alone, with the border", x.pathMask(0, 0), 255);
        check.due("alone, with the border", x.pathTile(0, 0), 46);
    }

    private static void promise13() {
        boolean[] occurs = new boolean[256];
        for (int near = 0; near < 256; near++) {
            occurs[maskOf(near)] = true;
        }
        for (int near = 0; near < 256; near++) {
            int less = 0;
            for (int mask = 0; mask < maskOf(near); mask++) {
                less += occurs[mask] ? 1 : 0;
            }
            check.due("pathTile near " + near, around(near).pathTile(1, 1), less);
        }
        TerrainTiler x = new TerrainTiler();
        check.due("no path", x.pathTile(0, 0), NONE);
        for (int bad : new int[] {LOW, -1, 4, HIGH}) {
            check.due("pathTile", x.pathTile(bad, 0), BAD_INDEX);
            check.due("pathTile", x.pathTile(0, bad), BAD_INDEX);
        }
    }
}
