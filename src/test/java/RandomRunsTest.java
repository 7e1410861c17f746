import java.util.Random;

/** Long runs of calls, ordinary and wrong ones mixed, compared with the Reference call by call. */
public final class RandomRunsTest {
    private static final int RUNS = 300, CALLS = 512, METHODS = 41;
    private static final int[] ODD = {
        Integer.MIN_VALUE, -65536, -3, -2, -1, 0, 4, 5, 6, 9, 10, 11, 12, 16, 255, 256, 65535, 65536,
        Integer.MAX_VALUE
    };
    private static final Check check = new Check("RandomRunsTest");

    private final Random random;
    private final TerrainTiler x = new TerrainTiler();
    private final Reference r = new Reference();
    private String pending = "";

    private RandomRunsTest(long seed) {
        random = new Random(seed);
    }

    public static void main(String[] args) {
        for (int run = 0; run < RUNS && check.wrong() == 0; run++) {
            new RandomRunsTest(run).go(run);
        }
        check.end();
    }

    private void go(int run) {
        for (int call = 0; call < CALLS && check.wrong() == 0; call++) {
            if (!pending.isEmpty()) {
                int code = pending.charAt(0);
                pending = pending.substring(1);
                due(run, call, "type(" + code + ")", x.type(code), r.type(code));
            } else {
                one(run, call, random.nextInt(METHODS));
            }
            if (random.nextInt(6) == 0) {
                due(run, call, "digest()", x.digest(), r.digest());
            }
        }
        due(run, CALLS, "digest()", x.digest(), r.digest());
        due(run, CALLS, "kinds()", x.kinds(), r.kinds());
        for (int kind = 0; kind <= r.kinds(); kind++) {
            due(run, CALLS, "kind", x.kind(kind, kind % 5), r.kind(kind, kind % 5));
        }
        due(run, CALLS, "write()", x.write(), r.write());
        for (int i = 0; i < 132; i++) {
            due(run, CALLS, "written", x.written(i), r.written(i));
        }
    }

    private void due(int run, int call, String what, long got, long want) {
        check.due("run " + run + ", call " + call + ": " + what, got, want);
    }

    /** Mostly from 0 up to below most, sometimes any number. */
    private int pick(int most) {
        if (random.nextInt(40) == 0) {
            return ODD[random.nextInt(ODD.length)];
        }
        return random.nextInt(Math.max(most, 1));
    }

    private int column(int more) {
        return pick(r.size(0) + more);
    }

    private int row(int more) {
        return pick(r.size(1) + more);
    }

    private int set() {
        int set = 0;
        for (int i = random.nextInt(4); i >= 0; i--) {
            set |= 1 << random.nextInt(16);
        }
        return random.nextInt(4) == 0 ? pick(65536) : set;
    }

    private String text() {
        int w = 2 + random.nextInt(random.nextInt(4) == 0 ? 10 : 4);
        int h = 2 + random.nextInt(random.nextInt(4) == 0 ? 10 : 3);
        StringBuilder text = new StringBuilder();
        for (int y = 0; y < h; y++) {
            text.append(y > 0 ? "/" : "");
            for (int left = w; left > 0; ) {
                int many = 1 + random.nextInt(left);
                text.append(many > 1 || random.nextInt(4) == 0 ? String.valueOf(many) : "");
                text.append((char) ('a' + random.nextInt(6)));
                left -= many;
                if (random.nextInt(12) == 0) {
                    text.append(' ');
                }
            }
        }
        for (int i = random.nextInt(3); i > 0; i--) {
            int at = random.nextInt(text.length() + 1);
            switch (random.nextInt(3)) {
                case 0 -> text.insert(at, "0123 /aafg".charAt(random.nextInt(10)));
                case 1 -> text.setLength(at);
                default -> text.setLength(text.length());
            }
        }
        return text.toString();
    }

    private void one(int run, int call, int method) {
        if (method < 13) {
            map(run, call, method);
        } else if (method < 21) {
            settings(run, call, method);
        } else if (method < 34) {
            cells(run, call, method);
        } else {
            texts(run, call, method);
        }
    }

    private void map(int run, int call, int method) {
        int a = column(1);
        int b = row(1);
        int c = column(1);
        int d = row(1);
        int t = pick(6);
        boolean on = random.nextInt(3) > 0;
        String args = "(" + a + ", " + b + ", " + c + ", " + d + ", " + t + ", " + on + ")";
        String name = "map method " + method + args;
        switch (method) {
            case 0 -> {
                int w = random.nextInt(8) == 0 ? pick(12) : 1 + pick(5);
                int h = random.nextInt(8) == 0 ? pick(12) : 1 + pick(5);
                due(run, call, "begin", x.begin(w, h, t), r.begin(w, h, t));
            }
            case 1 -> due(run, call, "size", x.size(t - 2), r.size(t - 2));
            case 2 -> due(run, call, name, x.setCorner(a, b, t), r.setCorner(a, b, t));
            case 3 -> due(run, call, name, x.corner(a, b), r.corner(a, b));
            case 4 -> due(run, call, name, x.fill(a, b, c, d, t), r.fill(a, b, c, d, t));
            case 5 -> due(run, call, name, x.flood(a, b, t), r.flood(a, b, t));
            case 6 -> due(run, call, name, x.raise(a, b, t), r.raise(a, b, t));
            case 7 -> due(run, call, name, x.regions(t), r.regions(t));
            case 8 -> due(run, call, name, x.setPath(a, b, on), r.setPath(a, b, on));
            case 9 -> due(run, call, name, x.hasPath(a, b), r.hasPath(a, b));
            case 10 -> due(run, call, name, x.pathMask(a, b), r.pathMask(a, b));
            case 11 -> due(run, call, name, x.pathTile(a, b), r.pathTile(a, b));
            default -> due(run, call, name, x.setPath(a, b, true), r.setPath(a, b, true));
        }
    }

    private void settings(int run, int call, int method) {
        int t = pick(6);
        int rank = pick(6);
        int mask = pick(17);
        int many = pick(10);
        int set = set();
        int seed = random.nextInt(3) == 0 ? random.nextInt() : pick(3);
        boolean on = random.nextBoolean();
        String name = "settings method " + method + " of terrain " + t;
        switch (method) {
            case 13 -> due(run, call, name, x.setRank(t, rank), r.setRank(t, rank));
            case 14 -> due(run, call, name, x.rank(t), r.rank(t));
            case 15 -> due(run, call, name, x.setTiles(t, set), r.setTiles(t, set));
            case 16 -> due(run, call, name, x.setVariants(t, many), r.setVariants(t, many));
            case 17 -> due(run, call, name, x.setSeed(seed), r.setSeed(seed));
            case 18 -> due(run, call, name, x.setBorder(on), r.setBorder(on));
            case 19 -> due(run, call, name, x.way(t, mask), r.way(t, mask));
            default -> due(run, call, name, x.parts(t, mask), r.parts(t, mask));
        }
    }

    private void cells(int run, int call, int method) {
        int a = column(0);
        int b = row(0);
        int i = pick(5);
        int what = pick(5);
        String name = "cell method " + method + "(" + a + ", " + b + ", " + i + ", " + what + ")";
        switch (method) {
            case 21 -> due(run, call, name, x.layers(a, b), r.layers(a, b));
            case 22 -> due(run, call, name, x.layer(a, b, i, what), r.layer(a, b, i, what));
            case 23 -> due(run, call, name, x.pieces(a, b), r.pieces(a, b));
            case 24 -> due(run, call, name, x.piece(a, b, i, what), r.piece(a, b, i, what));
            case 25 -> due(run, call, name, x.painted(a, b), r.painted(a, b));
            case 26 -> due(run, call, name, x.isStale(a, b), r.isStale(a, b));
            case 27 -> due(run, call, name, x.touched(), r.touched());
            case 28 -> due(run, call, name, x.stale(), r.stale());
            case 29 -> due(run, call, name, x.paint(), r.paint());
            case 30 -> due(run, call, name, x.paintCell(a, b), r.paintCell(a, b));
            case 31 -> due(run, call, name, x.kinds(), r.kinds());
            case 32 -> due(run, call, name, x.kind(i, what), r.kind(i, what));
            default -> due(run, call, name, x.undo(), r.undo());
        }
    }

    private void texts(int run, int call, int method) {
        int code = pick(256);
        int index = pick(30);
        String name = "text method " + method;
        switch (method) {
            case 34 -> {
                if (random.nextInt(4) == 0) {
                    due(run, call, name, x.type(code), r.type(code));
                }
            }
            case 35 -> {
                due(run, call, name, x.clearText(), r.clearText());
                pending = text();
            }
            case 36 -> due(run, call, name, x.textFault(), r.textFault());
            case 37, 40 -> due(run, call, name, x.load(), r.load());
            case 38 -> due(run, call, name, x.write(), r.write());
            default -> due(run, call, name, x.written(index), r.written(index));
        }
    }
}
