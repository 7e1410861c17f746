/** Counts the answers that are not as due, and tells them. */
final class Check {
    private static final int MOST_TOLD = 40;
    private final String name;
    private int asked;
    private int wrong;
    private String sentence = "";
    private int sentences;
    private int askedBefore;

    Check(String name) {
        this.name = name;
    }

    /** The sentence of the document that the next questions are about; there must be some. */
    void says(String next) {
        endSentence();
        sentence = next;
        sentences++;
        askedBefore = asked;
    }

    private void endSentence() {
        if (sentences > 0 && asked == askedBefore) {
            wrong++;
            System.out.println(name + ": nothing is asked about \"" + sentence + "\"");
        }
    }

    void due(String call, long got, long want) {
        asked++;
        if (got != want) {
            tell(call + " answered " + got + ", due is " + want);
        }
    }

    void holds(String what, boolean so) {
        asked++;
        if (!so) {
            tell(what + " does not hold");
        }
    }

    private void tell(String fault) {
        wrong++;
        if (wrong <= MOST_TOLD) {
            String of = sentences > 0 ? " (\"" + sentence + "\")" : "";
            System.out.println(name + ": " + fault + of);
        }
    }

    int wrong() {
        return wrong;
    }

    void end() {
        endSentence();
        String of = sentences > 0 ? " to " + sentences + " sentences" : "";
        System.out.println(name + ": " + asked + " answers" + of + ", " + wrong + " not as due");
        if (wrong != 0 || asked == 0) {
            System.exit(1);
        }
    }

    /** Types all bytes of a text. */
    static void type(TerrainTiler tiler, String text) {
        for (int i = 0; i < text.length(); i++) {
            tiler.type(text.charAt(i));
        }
    }

    /** A tiler whose map was loaded from a text. */
    static TerrainTiler loaded(String text) {
        TerrainTiler tiler = new TerrainTiler();
        type(tiler, text);
        if (tiler.load() < 1) {
            throw new IllegalStateException("the test's own text has a fault: " + text);
        }
        return tiler;
    }

    /** A tiler with a new map, nothing painted yet. */
    static TerrainTiler begun(int w, int h, int terrain) {
        TerrainTiler tiler = new TerrainTiler();
        if (tiler.begin(w, h, terrain) != w * h) {
            throw new IllegalStateException("the test's own map cannot be: " + w + " times " + h);
        }
        return tiler;
    }

    /** What is written by write(). */
    static String written(TerrainTiler tiler) {
        int length = tiler.write();
        StringBuilder text = new StringBuilder();
        for (int i = 0; i < length; i++) {
            text.append((char) tiler.written(i));
        }
        return text.toString();
    }

    /** That a call answers an error, changes nothing, and is not recorded. */
    void refused(String call, TerrainTiler tiler, long before, int got, int want) {
        due(call, got, want);
        due("digest() after " + call, tiler.digest(), before);
    }

    /** That the map is this one, written as a text. */
    void map(String what, TerrainTiler tiler, String want) {
        String got = written(tiler);
        holds(what + ": the map " + want + ", not " + got + ",", got.equals(want));
    }

    /** How many states the history holds; it is empty then. */
    static int drain(TerrainTiler tiler) {
        int states = 0;
        while (states < 100 && tiler.undo() >= 0) {
            states++;
        }
        return states;
    }
}
