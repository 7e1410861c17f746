/** Counts the answers that are not as due, and tells them. */
final class Check {
    private static final int MOST_TOLD = 40;
    private final String name;
    private int asked;
    private int wrong;

    Check(String name) {
        this.name = name;
    }

    void due(String call, long got, long want) {
        asked++;
        if (got != want) {
            wrong++;
            if (wrong <= MOST_TOLD) {
                System.out.println(name + ": " + call + " answered " + got + ", due is " + want);
            }
        }
    }

    void holds(String what, boolean so) {
        asked++;
        if (!so) {
            wrong++;
            if (wrong <= MOST_TOLD) {
                System.out.println(name + ": " + what + " does not hold");
            }
        }
    }

    int wrong() {
        return wrong;
    }

    void end() {
        System.out.println(name + ": " + asked + " answers, " + wrong + " not as due");
        if (wrong != 0 || asked == 0) {
            System.exit(1);
        }
    }

    /** Types all bytes of a text. */
    static void type(TerrainTiler tiler, String text) {
        for (int i = 0; i < text.length(); i++) {
            tiler.type(text.charAt(i));
        }
    }

    /** A tiler whose map was loaded from a text. */
    static TerrainTiler loaded(String text) {
        TerrainTiler tiler = new TerrainTiler();
        type(tiler, text);
        if (tiler.load() < 1) {
            throw new IllegalStateException("the test's own text has a fault: " + text);
        }
        return tiler;
    }

    /** What is written by write(). */
    static String written(TerrainTiler tiler) {
        int length = tiler.write();
        StringBuilder text = new StringBuilder();
        for (int i = 0; i < length; i++) {
            text.append((char) tiler.written(i));
        }
        return text.toString();
    }

    /** That a call answers an error, changes nothing, and is not recorded. */
    void refused(String call, TerrainTiler tiler, long before, int got, int want) {
        due(call, got, want);
        due("digest() after " + call, tiler.digest(), before);
    }

    /** How many states the history holds; it is empty then. */
    static int drain(TerrainTiler tiler) {
        int states = 0;
        while (states < 100 && tiler.undo() >= 0) {
            states++;
        }
        return states;
    }
}
