import com.sun.management.ThreadMXBean;
import java.lang.management.ManagementFactory;

/** All calls of a run share one room: a new object is small, and its calls make no objects. */
public final class RoomTest {
    private static final Check check = new Check("RoomTest");
    private static final ThreadMXBean THREADS = (ThreadMXBean) ManagementFactory.getThreadMXBean();
    private static long sum;

    public static void main(String[] args) {
        rounds(new TerrainTiler(), 2);
        madeBy(() -> { });
        long bytes = madeBy(() -> sum += new TerrainTiler().size(0));
        check.holds("a new object takes at most 64 KiB, not " + bytes, bytes > 0 && bytes < 65536);
        TerrainTiler x = new TerrainTiler();
        long made = madeBy(() -> rounds(x, 20));
        check.due("bytes that calls take", made, madeBy(() -> { }));
        check.end();
    }

    private static long madeBy(Runnable calls) {
        long id = Thread.currentThread().getId();
        long before = THREADS.getThreadAllocatedBytes(id);
        calls.run();
        return THREADS.getThreadAllocatedBytes(id) - before;
    }

    /** Every method, on the largest map. */
    private static void rounds(TerrainTiler x, int many) {
        for (int i = 0; i < many; i++) {
            sum += x.begin(10, 10, i % 6) + x.raise(i % 11, 5, 5) + x.fill(0, i % 11, 3, 3, 2);
            sum += x.flood(9, 9, i % 5) + x.regions(i % 6) + x.setCorner(4, 4, 1) + x.corner(4, 4);
            sum += x.setPath(i % 10, 4, true) + x.hasPath(4, 4) + x.pathMask(4, 4);
            sum += x.setRank(i % 6, 3) + x.rank(2) + x.setTiles(i % 6, 1 << i % 16);
            sum += x.setVariants(i % 6, 8) + x.setSeed(i) + x.setBorder(i % 2 == 0);
            sum += x.way(1, 7) + x.parts(1, 7) + x.layers(4, 4) + x.layer(4, 4, 0, 1);
            sum += x.pieces(4, 4) + x.piece(4, 4, 0, 1) + x.paint() + x.painted(4, 4);
            sum += x.isStale(4, 4) + x.touched() + x.stale() + x.paintCell(4, 4) + x.kinds();
            sum += x.kind(0, 4) + x.pathTile(4, 4) + x.write() + x.written(3) + x.digest();
            x.clearText();
            for (int k = 0; k < 5; k++) {
                x.type("2a/bc".charAt(k));
            }
            sum += x.textFault() + x.load() + x.size(2) + x.undo();
        }
    }
}
