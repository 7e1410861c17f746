import java.util.ArrayList;
import java.util.LinkedHashMap;
import java.util.List;
import java.util.Map;
import java.util.function.Supplier;
import java.util.function.ToIntFunction;
import java.util.function.ToLongFunction;

/** Promise 34 and the head 'History, errors': each sentence that names a boundary case. */
public final class HistoryEdgesTest {
    private static final int BAD_INDEX = TerrainTiler.BAD_INDEX, BAD_VALUE = TerrainTiler.BAD_VALUE;
    private static final int BAD_STATE = TerrainTiler.BAD_STATE, FULL = TerrainTiler.FULL;
    private static final int LOW = Integer.MIN_VALUE, HIGH = Integer.MAX_VALUE;
    private static final Check check = new Check("HistoryEdgesTest");

    public static void main(String[] args) {
        emptyAtFirst();
        atMost5();
        oldestIsDropped();
        roundAndRound();
        latestIsRestored();
        recordedMethods();
        recordedWithoutAChange();
        wholeState();
        textIsNotRecorded();
        othersAreNotRecorded();
        emptyChangesNothing();
        errorsChangeNothing();
        fullTextChangesNothing();
        firstErrorInOrder();
        all512Calls();
        check.end();
    }

    /** A map of 5 times 3 cells with everything on it, a text without fault, and a full history. */
    private static TerrainTiler rich() {
        TerrainTiler x = Check.begun(5, 3, 1);
        x.raise(2, 1, 4);
        x.setPath(1, 1, true);
        x.setPath(2, 1, true);
        x.setRank(3, 1);
        x.setTiles(2, 0x116);
        x.setTiles(4, 2);
        x.setVariants(1, 5);
        x.setSeed(-77);
        x.setBorder(true);
        x.paint();
        x.setCorner(0, 0, 0);
        x.setPath(4, 2, true);
        x.paintCell(0, 0);
        Check.type(x, "3ab/2c2d/4e");
        x.write();
        return x;
    }

    /** The same with two states in its history. */
    private static TerrainTiler two() {
        TerrainTiler x = rich();
        x.undo();
        x.undo();
        x.undo();
        return x;
    }

    /** The same, and its text full. */
    private static TerrainTiler typed() {
        TerrainTiler x = two();
        for (int i = 0; i < 150; i++) {
            x.type(' ');
        }
        return x;
    }

    private static void emptyAtFirst() {
        check.says("BAD_STATE if it is empty.");
        TerrainTiler x = new TerrainTiler();
        check.due("at first", x.undo(), BAD_STATE);
        x.setSeed(1);
        check.due("one", x.undo(), 0);
        check.due("empty again", x.undo(), BAD_STATE);
        check.due("empty still", x.undo(), BAD_STATE);
        x.setSeed(1);
        check.due("one again", x.undo(), 0);
    }

    private static void atMost5() {
        check.says("A history of at most 5 states is kept.");
        for (int calls = 0; calls <= 12; calls++) {
            TerrainTiler x = new TerrainTiler();
            for (int i = 1; i <= calls; i++) {
                x.setSeed(i);
            }
            int kept = Math.min(calls, 5);
            for (int left = kept - 1; left >= 0; left--) {
                check.due("undo after " + calls + " calls", x.undo(), left);
            }
            check.due("empty after " + calls + " calls", x.undo(), BAD_STATE);
            check.due("how far back", x.setSeed(calls - kept), 0);
        }
    }

    private static void oldestIsDropped() {
        check.says("when one more is recorded, the oldest one is dropped.");
        TerrainTiler x = Check.begun(1, 1, 0);
        for (int t = 1; t <= 5; t++) {
            x.setCorner(0, 0, t);
        }
        // begin itself was dropped: what is left are the corners 0 to 4
        for (int t = 4; t >= 0; t--) {
            check.due("undo", x.undo(), t);
            check.due("corner", x.corner(0, 0), t);
            check.due("w", x.size(0), 1);
        }
        check.due("empty", x.undo(), BAD_STATE);
    }

    private static void roundAndRound() {
        check.says("A history of at most 5 states");
        TerrainTiler x = new TerrainTiler();
        List<Long> states = new ArrayList<>();
        int[] calls = {7, 3, 5, 1, 6, 4, 9, 2, 11};
        int[] undos = {2, 4, 1, 3, 6, 2, 4, 1, 6};
        int next = 0;
        for (int i = 0; i < calls.length; i++) {
            for (int k = 0; k < calls[i]; k++, next++) {
                states.add(x.digest());
                x.setCorner(next % 5, next / 5 % 5, 1 + next % 5);
            }
            while (states.size() > 5) {
                states.remove(0);
            }
            for (int k = 0; k < undos[i]; k++) {
                boolean empty = states.isEmpty();
                check.due("undo", x.undo(), empty ? BAD_STATE : states.size() - 1);
                if (!empty) {
                    check.due("digest", x.digest(), states.remove(states.size() - 1));
                }
            }
        }
    }

    private static void latestIsRestored() {
        check.says("undo() removes and restores the latest one.");
        TerrainTiler x = new TerrainTiler();
        x.setCorner(0, 0, 1);
        x.setCorner(0, 0, 2);
        x.undo();
        check.due("the latest", x.corner(0, 0), 1);
        x.setCorner(0, 0, 3);
        check.due("in its place", x.undo(), 1);
        check.due("the latest", x.corner(0, 0), 1);
        check.due("undo is not recorded", x.undo(), 0);
        check.due("the first", x.corner(0, 0), 0);
        check.due("undo is not recorded", x.undo(), BAD_STATE);
    }

    /** The methods that are said to be recorded, each with changes. */
    private static Map<String, ToIntFunction<TerrainTiler>> changes() {
        Map<String, ToIntFunction<TerrainTiler>> calls = new LinkedHashMap<>();
        calls.put("begin", x -> x.begin(10, 10, 5));
        calls.put("a small begin", x -> x.begin(1, 1, 0));
        calls.put("setCorner", x -> x.setCorner(5, 3, 5));
        calls.put("fill", x -> x.fill(5, 3, 0, 0, 5));
        calls.put("flood", x -> x.flood(1, 1, 5));
        calls.put("raise", x -> x.raise(0, 0, 5));
        calls.put("setPath on", x -> x.setPath(0, 0, true));
        calls.put("setPath off", x -> x.setPath(1, 1, false));
        calls.put("setRank", x -> x.setRank(1, 5));
        calls.put("setTiles", x -> x.setTiles(1, 0));
        calls.put("setTiles with fewer parts", x -> x.setTiles(4, 65535));
        calls.put("setVariants", x -> x.setVariants(1, 8));
        calls.put("setSeed", x -> x.setSeed(HIGH));
        calls.put("setBorder", x -> x.setBorder(false));
        calls.put("paint", TerrainTiler::paint);
        calls.put("paintCell", x -> x.paintCell(4, 2));
        calls.put("load", TerrainTiler::load);
        return calls;
    }

    /** The same methods, where they change nothing in rich() or in two(). */
    private static Map<String, ToIntFunction<TerrainTiler>> idle() {
        Map<String, ToIntFunction<TerrainTiler>> calls = new LinkedHashMap<>();
        calls.put("setCorner", x -> x.setCorner(5, 3, x.corner(5, 3)));
        calls.put("fill", x -> x.fill(5, 3, 5, 3, x.corner(5, 3)));
        calls.put("flood", x -> x.flood(1, 1, x.corner(1, 1)));
        calls.put("setPath", x -> x.setPath(1, 1, true));
        calls.put("setRank", x -> x.setRank(3, 1));
        calls.put("setTiles", x -> x.setTiles(4, 3));
        calls.put("setVariants", x -> x.setVariants(1, 5));
        calls.put("setSeed", x -> x.setSeed(-77));
        calls.put("setBorder", x -> x.setBorder(true));
        return calls;
    }

    /** That a call on two() is recorded: one undo gives all of two() again. */
    private static void recorded(String name, ToIntFunction<TerrainTiler> call, List<Long> before) {
        List<Long> after = Watch.all(() -> {
            TerrainTiler x = two();
            check.holds(name + " is no error", call.applyAsInt(x) >= 0);
            check.due("undo after " + name, x.undo(), 2);
            return x;
        });
        check.holds("all is as before " + name, after.equals(before));
    }

    private static void recordedMethods() {
        check.says("The methods that are said to be recorded record the whole state");
        List<Long> before = Watch.all(HistoryEdgesTest::two);
        for (Map.Entry<String, ToIntFunction<TerrainTiler>> call : changes().entrySet()) {
            recorded(call.getKey(), call.getValue(), before);
            TerrainTiler x = rich();
            call.getValue().applyAsInt(x);
            check.due("a full history after " + call.getKey(), Check.drain(x), 5);
        }
    }

    private static void recordedWithoutAChange() {
        check.says("before each call that returns no error, even if it changes nothing");
        List<Long> before = Watch.all(HistoryEdgesTest::two);
        for (Map.Entry<String, ToIntFunction<TerrainTiler>> call : idle().entrySet()) {
            TerrainTiler x = two();
            long digest = x.digest();
            call.getValue().applyAsInt(x);
            check.due(call.getKey() + " changes nothing", x.digest(), digest);
            check.due("states after " + call.getKey(), Check.drain(x), 3);
            recorded(call.getKey(), call.getValue(), before);
        }
        TerrainTiler x = Check.begun(2, 2, 0);
        x.paint();
        check.due("raise changes nothing", x.raise(1, 1, 0), 0);
        check.due("paint changes nothing", x.paint(), 0);
        check.due("paintCell changes nothing", x.paintCell(0, 0), 0);
        check.due("all five are recorded", Check.drain(x), 5);
    }

    /** Each state of a full history is whole: what later calls change in all parts comes back. */
    private static void wholeState() {
        check.says("record the whole state (all but the text and what was written)");
        List<ToIntFunction<TerrainTiler>> calls = new ArrayList<>(changes().values());
        for (int first = 0; first + 5 <= calls.size(); first++) {
            List<ToIntFunction<TerrainTiler>> five = calls.subList(first, first + 5);
            TerrainTiler x = rich();
            List<Long> digests = new ArrayList<>();
            for (ToIntFunction<TerrainTiler> call : five) {
                digests.add(x.digest());
                // A small map may lack the cell or the corner; then another call is recorded.
                if (call.applyAsInt(x) < 0) {
                    x.setSeed(first);
                }
            }
            for (int i = 4; i >= 0; i--) {
                check.due("undo", x.undo(), i);
                check.due("digest", x.digest(), digests.get(i));
            }
        }
        TerrainTiler x = Check.begun(10, 10, 5);
        x.setPath(9, 9, true);
        x.paint();
        long large = x.digest();
        x.begin(1, 1, 0);
        x.paint();
        x.undo();
        x.undo();
        check.due("the largest map after the smallest one", x.digest(), large);
        check.due("its last piece", x.painted(9, 9), 1);
        check.due("its last path", x.hasPath(9, 9), 1);
    }

    private static void textIsNotRecorded() {
        check.says("(all but the text and what was written)");
        TerrainTiler x = Check.begun(1, 1, 0);
        Check.type(x, "ab/cd");
        x.setCorner(0, 0, 1);
        x.write();
        x.type(' ');
        x.undo();
        check.due("the map is back", x.corner(0, 0), 0);
        check.due("what was written stays", x.written(0), 'b');
        check.due("the text stays", x.textFault(), TerrainTiler.NONE);
        check.due("the text stays", x.clearText(), 6);
        x.undo();
        check.due("the text stays empty", x.clearText(), 0);
        check.due("what was written stays", x.written(0), 'b');
        check.due("nothing more is written", x.written(5), BAD_INDEX);
    }

    /** The methods that are not said to be recorded; of the text only those that leave it. */
    private static Map<String, ToLongFunction<TerrainTiler>> questions() {
        Map<String, ToLongFunction<TerrainTiler>> calls = new LinkedHashMap<>();
        calls.put("size", x -> x.size(2));
        calls.put("corner", x -> x.corner(5, 3));
        calls.put("regions", x -> x.regions(1));
        calls.put("hasPath", x -> x.hasPath(4, 2));
        calls.put("pathMask", x -> x.pathMask(1, 1));
        calls.put("pathMask of none", x -> x.pathMask(0, 0));
        calls.put("pathTile", x -> x.pathTile(1, 1));
        calls.put("pathTile of none", x -> x.pathTile(0, 0));
        calls.put("rank", x -> x.rank(5));
        calls.put("way", x -> x.way(4, 8));
        calls.put("way of none", x -> x.way(4, 3));
        calls.put("parts", x -> x.parts(4, 7));
        calls.put("layers", x -> x.layers(1, 1));
        calls.put("layer", x -> x.layer(1, 1, 0, 1));
        calls.put("pieces", x -> x.pieces(1, 1));
        calls.put("piece", x -> x.piece(1, 1, 0, 3));
        calls.put("painted", x -> x.painted(4, 2));
        calls.put("isStale", x -> x.isStale(4, 2));
        calls.put("touched", TerrainTiler::touched);
        calls.put("stale", TerrainTiler::stale);
        calls.put("kinds", TerrainTiler::kinds);
        calls.put("kind", x -> x.kind(0, 4));
        calls.put("textFault", TerrainTiler::textFault);
        calls.put("written", x -> x.written(0));
        calls.put("digest", TerrainTiler::digest);
        return calls;
    }

    private static void othersAreNotRecorded() {
        check.says("The methods that are said to be recorded");
        List<Long> before = Watch.all(HistoryEdgesTest::two);
        for (Map.Entry<String, ToLongFunction<TerrainTiler>> call : questions().entrySet()) {
            List<Long> after = Watch.all(() -> {
                TerrainTiler x = two();
                call.getValue().applyAsLong(x);
                return x;
            });
            check.holds(call.getKey() + " changes nothing", after.equals(before));
        }
        TerrainTiler x = two();
        x.type('a');
        x.clearText();
        x.write();
        check.due("nor are calls on texts", Check.drain(x), 2);
    }

    private static void emptyChangesNothing() {
        check.says("BAD_STATE (-4): the call is not possible, as told");
        Supplier<TerrainTiler> empty = () -> {
            TerrainTiler x = rich();
            Check.drain(x);
            return x;
        };
        refused("undo", empty, TerrainTiler::undo, BAD_STATE, Watch.all(empty));
        Supplier<TerrainTiler> faulty = () -> {
            TerrainTiler x = rich();
            x.type('x');
            return x;
        };
        refused("load", faulty, TerrainTiler::load, BAD_STATE, Watch.all(faulty));
        Supplier<TerrainTiler> none = () -> {
            TerrainTiler x = two();
            x.clearText();
            return x;
        };
        refused("load of no text", none, TerrainTiler::load, BAD_STATE, Watch.all(none));
    }

    private static void refused(String name, Supplier<TerrainTiler> recipe,
            ToIntFunction<TerrainTiler> call, int want, List<Long> before) {
        List<Long> after = Watch.all(() -> {
            TerrainTiler x = recipe.get();
            check.due(name, call.applyAsInt(x), want);
            return x;
        });
        check.holds(name + " changes nothing", after.equals(before));
    }

    private static final int[] NO_TERRAIN = {LOW, -1, 6, HIGH};

    /** Calls on a map of 5 times 3 cells that return BAD_INDEX. */
    private static Map<String, ToIntFunction<TerrainTiler>> badIndexes() {
        Map<String, ToIntFunction<TerrainTiler>> calls = new LinkedHashMap<>();
        for (int t : NO_TERRAIN) {
            calls.put("begin, terrain " + t, x -> x.begin(2, 2, t));
            calls.put("setCorner, terrain " + t, x -> x.setCorner(0, 0, t));
            calls.put("fill, terrain " + t, x -> x.fill(0, 0, 1, 1, t));
            calls.put("flood, terrain " + t, x -> x.flood(0, 0, t));
            calls.put("raise, terrain " + t, x -> x.raise(0, 0, t));
            calls.put("regions, terrain " + t, x -> x.regions(t));
            calls.put("setRank, terrain " + t, x -> x.setRank(t, 0));
            calls.put("rank, terrain " + t, x -> x.rank(t));
            calls.put("setTiles, terrain " + t, x -> x.setTiles(t, 0));
            calls.put("setVariants, terrain " + t, x -> x.setVariants(t, 1));
            calls.put("way, terrain " + t, x -> x.way(t, 1));
            calls.put("parts, terrain " + t, x -> x.parts(t, 1));
        }
        for (int[] at : new int[][] {{LOW, 0}, {-1, 0}, {6, 0}, {HIGH, 0}, {0, -1}, {0, 4}, {6, 4}}) {
            String where = " at (" + at[0] + ", " + at[1] + ")";
            calls.put("setCorner" + where, x -> x.setCorner(at[0], at[1], 5));
            calls.put("corner" + where, x -> x.corner(at[0], at[1]));
            calls.put("fill from" + where, x -> x.fill(at[0], at[1], 0, 0, 5));
            calls.put("fill to" + where, x -> x.fill(0, 0, at[0], at[1], 5));
            calls.put("flood" + where, x -> x.flood(at[0], at[1], 5));
            calls.put("raise" + where, x -> x.raise(at[0], at[1], 5));
        }
        for (int[] at : new int[][] {{LOW, 0}, {-1, 0}, {5, 0}, {HIGH, 0}, {0, -1}, {0, 3}, {5, 3}}) {
            cellCalls(calls, at[0], at[1]);
        }
        calls.put("layer -1", x -> x.layer(0, 0, -1, 0));
        calls.put("layer 4", x -> x.layer(0, 0, 4, 0));
        calls.put("piece -1", x -> x.piece(0, 0, -1, 0));
        calls.put("piece 7", x -> x.piece(0, 0, 7, 0));
        calls.put("kind -1", x -> x.kind(-1, 0));
        calls.put("kind 100", x -> x.kind(100, 0));
        calls.put("written -1", x -> x.written(-1));
        calls.put("written 131", x -> x.written(131));
        return calls;
    }

    private static void cellCalls(
            Map<String, ToIntFunction<TerrainTiler>> calls, int column, int row) {
        String where = " at (" + column + ", " + row + ")";
        calls.put("setPath" + where, x -> x.setPath(column, row, true));
        calls.put("hasPath" + where, x -> x.hasPath(column, row));
        calls.put("pathMask" + where, x -> x.pathMask(column, row));
        calls.put("pathTile" + where, x -> x.pathTile(column, row));
        calls.put("layers" + where, x -> x.layers(column, row));
        calls.put("layer" + where, x -> x.layer(column, row, 0, 0));
        calls.put("pieces" + where, x -> x.pieces(column, row));
        calls.put("piece" + where, x -> x.piece(column, row, 0, 0));
        calls.put("painted" + where, x -> x.painted(column, row));
        calls.put("isStale" + where, x -> x.isStale(column, row));
        calls.put("paintCell" + where, x -> x.paintCell(column, row));
    }

    /** Calls that return BAD_VALUE. */
    private static Map<String, ToIntFunction<TerrainTiler>> badValues() {
        Map<String, ToIntFunction<TerrainTiler>> calls = new LinkedHashMap<>();
        for (int bad : new int[] {LOW, -1, 0, 11, HIGH}) {
            calls.put("begin, w " + bad, x -> x.begin(bad, 1, 0));
            calls.put("begin, h " + bad, x -> x.begin(1, bad, 0));
        }
        for (int bad : new int[] {LOW, -1, 65536, HIGH}) {
            calls.put("size of " + bad, x -> x.size(bad));
            calls.put("setRank to " + bad, x -> x.setRank(0, bad));
            calls.put("setTiles to " + bad, x -> x.setTiles(0, bad));
            calls.put("setVariants to " + bad, x -> x.setVariants(0, bad));
            calls.put("way of " + bad, x -> x.way(0, bad));
            calls.put("parts of " + bad, x -> x.parts(0, bad));
            calls.put("layer's " + bad, x -> x.layer(0, 0, 0, bad));
            calls.put("piece's " + bad, x -> x.piece(0, 0, 0, bad));
            calls.put("kind's " + bad, x -> x.kind(0, bad));
            calls.put("type of " + bad, x -> x.type(bad));
        }
        calls.put("size of 3", x -> x.size(3));
        calls.put("setRank to 6", x -> x.setRank(0, 6));
        calls.put("setVariants to 0", x -> x.setVariants(0, 0));
        calls.put("setVariants to 9", x -> x.setVariants(0, 9));
        calls.put("way of 0", x -> x.way(0, 0));
        calls.put("way of 16", x -> x.way(0, 16));
        calls.put("parts of 0", x -> x.parts(0, 0));
        calls.put("parts of 16", x -> x.parts(0, 16));
        calls.put("layer's 2", x -> x.layer(0, 0, 0, 2));
        calls.put("piece's 4", x -> x.piece(0, 0, 0, 4));
        calls.put("kind's 5", x -> x.kind(0, 5));
        calls.put("type of 256", x -> x.type(256));
        return calls;
    }

    private static void errorsChangeNothing() {
        check.says("A call that returns an error changes nothing.");
        List<Supplier<TerrainTiler>> recipes =
                List.of(HistoryEdgesTest::rich, HistoryEdgesTest::two);
        for (Supplier<TerrainTiler> recipe : recipes) {
            List<Long> before = Watch.all(recipe);
            for (Map.Entry<String, ToIntFunction<TerrainTiler>> call : badIndexes().entrySet()) {
                refused(call.getKey(), recipe, call.getValue(), BAD_INDEX, before);
            }
            for (Map.Entry<String, ToIntFunction<TerrainTiler>> call : badValues().entrySet()) {
                refused(call.getKey(), recipe, call.getValue(), BAD_VALUE, before);
            }
        }
    }

    private static void fullTextChangesNothing() {
        check.says("FULL (-5): there is no room.");
        List<Long> before = Watch.all(HistoryEdgesTest::typed);
        refused("type a letter", HistoryEdgesTest::typed, x -> x.type('a'), FULL, before);
        refused("type a blank", HistoryEdgesTest::typed, x -> x.type(' '), FULL, before);
        refused("type 0", HistoryEdgesTest::typed, x -> x.type(0), FULL, before);
        refused("type 256", HistoryEdgesTest::typed, x -> x.type(256), BAD_VALUE, before);
    }

    private static void firstErrorInOrder() {
        check.says("If several apply to a call, the first one in this order is returned");
        TerrainTiler x = rich();
        check.due("begin", x.begin(0, 0, 6), BAD_INDEX);
        check.due("setRank", x.setRank(6, 6), BAD_INDEX);
        check.due("setTiles", x.setTiles(-1, -1), BAD_INDEX);
        check.due("setVariants", x.setVariants(6, 0), BAD_INDEX);
        check.due("way", x.way(6, 0), BAD_INDEX);
        check.due("parts", x.parts(-1, 16), BAD_INDEX);
        check.due("layer of no cell", x.layer(5, 0, 0, 2), BAD_INDEX);
        check.due("no layer", x.layer(0, 0, 4, 2), BAD_INDEX);
        check.due("piece of no cell", x.piece(0, 3, 0, 4), BAD_INDEX);
        check.due("no piece", x.piece(0, 0, 8, 4), BAD_INDEX);
        check.due("kind", x.kind(-1, 5), BAD_INDEX);
        check.due("type", typed().type(-1), BAD_VALUE);
        check.due("type", typed().type(256), BAD_VALUE);
    }

    private static void all512Calls() {
        check.says("An object is used for at most 512 calls after it has been made");
        TerrainTiler x = new TerrainTiler();
        for (int i = 1; i <= 506; i++) {
            check.due("setSeed, call " + i, x.setSeed(i), 1);
        }
        for (int left = 4; left >= 0; left--) {
            check.due("undo", x.undo(), left);
        }
        check.due("the 512th call", x.setSeed(501), 0);
    }
}
