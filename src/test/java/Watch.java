import java.util.ArrayList;
import java.util.List;
import java.util.function.Consumer;
import java.util.function.Supplier;

/**
 * All that can be seen of a tiler and of the states in its history. Much of it is seen only by calls
 * that change something, so a recipe is wanted that makes the same tiler again and again.
 */
final class Watch {
    private static final int MOST_STATES = 5;
    private final List<Long> seen = new ArrayList<>();

    static List<Long> all(Supplier<TerrainTiler> recipe) {
        Watch watch = new Watch();
        List<Consumer<TerrainTiler>> looks =
                List.of(watch::map, watch::settings, watch::masks, watch::touches, watch::texts);
        for (int back = 0; back <= MOST_STATES + 1; back++) {
            for (Consumer<TerrainTiler> look : looks) {
                TerrainTiler x = recipe.get();
                for (int i = 0; i < back; i++) {
                    watch.see(x.undo());
                }
                look.accept(x);
            }
        }
        return watch.seen;
    }

    private void see(long answer) {
        seen.add(answer);
    }

    private void map(TerrainTiler x) {
        see(x.digest());
        see(x.size(0));
        see(x.size(1));
        see(x.size(2));
        see(x.stale());
        see(x.kinds());
    }

    private void settings(TerrainTiler x) {
        for (int t = 0; t < 6; t++) {
            see(x.rank(t));
            see(x.setTiles(t, 0));
            see(x.setVariants(t, 8));
        }
        see(x.setBorder(true));
        x.begin(10, 10, 0);
        // The variants of these cells tell the seed.
        for (int i = 0; i < 100; i++) {
            see(x.piece(i % 10, i / 10, 0, 3));
        }
    }

    private void masks(TerrainTiler x) {
        for (int t = 0; t < 6; t++) {
            for (int mask = 1; mask <= 15; mask++) {
                see(x.way(t, mask));
                see(x.parts(t, mask));
            }
        }
    }

    private void touches(TerrainTiler x) {
        int w = x.size(0);
        int h = x.size(1);
        for (int i = 0; i < w * h; i++) {
            see(x.paintCell(i % w, i / w));
            see(x.touched());
        }
    }

    private void texts(TerrainTiler x) {
        for (int i = 0; i <= 131; i++) {
            see(x.written(i));
        }
        see(x.textFault());
        see(x.load());
        see(x.digest());
        see(x.clearText());
    }
}
