import java.lang.reflect.Constructor;
import java.lang.reflect.Field;
import java.lang.reflect.Method;
import java.lang.reflect.Modifier;
import java.nio.file.Files;
import java.nio.file.Path;
import java.util.Arrays;
import java.util.Set;
import java.util.TreeSet;
import java.util.regex.Matcher;
import java.util.regex.Pattern;

/** The public face, and such rules of LANGUAGE.md as can be seen in the class and in its source. */
public final class FaceTest {
    private static final String[] FACE = {
        "begin(III)I", "size(I)I", "setCorner(III)I", "corner(II)I", "fill(IIIII)I", "flood(III)I",
        "raise(III)I", "regions(I)I", "setPath(IIZ)I", "hasPath(II)I", "pathMask(II)I",
        "pathTile(II)I", "setRank(II)I", "rank(I)I", "setTiles(II)I", "setVariants(II)I",
        "setSeed(I)I", "setBorder(Z)I", "way(II)I", "parts(II)I", "layers(II)I", "layer(IIII)I",
        "pieces(II)I", "piece(IIII)I", "painted(II)I", "isStale(II)I", "touched()I", "stale()I",
        "paint()I", "paintCell(II)I", "kinds()I", "kind(II)I", "undo()I", "type(I)I",
        "clearText()I", "textFault()I", "load()I", "write()I", "written(I)I", "digest()J"
    };
    private static final String[] FORBIDDEN = {
        "throw", "throws", "try", "catch", "synchronized", "assert", "import", "package", "->",
        "::", "Exact", "protected", "instanceof", "System.nanoTime", "System.currentTimeMillis",
        "Random", "Thread", "String "
    };
    private static final Check check = new Check("FaceTest");

    public static void main(String[] args) throws Exception {
        face();
        constants();
        nested();
        source();
        check.end();
    }

    private static void face() {
        Class<?> c = TerrainTiler.class;
        check.due("public and final", c.getModifiers(), Modifier.PUBLIC | Modifier.FINAL);
        Set<String> due = new TreeSet<>(Arrays.asList(FACE));
        Set<String> open = new TreeSet<>();
        Set<String> names = new TreeSet<>();
        for (Method m : c.getDeclaredMethods()) {
            if (!Modifier.isPrivate(m.getModifiers())) {
                check.holds(m + " is public alone", m.getModifiers() == Modifier.PUBLIC);
                open.add(signature(m));
                names.add(m.getName());
            }
        }
        check.holds("the face is " + due + ", not " + open, open.equals(due));
        for (Method m : c.getDeclaredMethods()) {
            boolean hidden = Modifier.isPrivate(m.getModifiers());
            check.holds(m + " has a name of its own", !hidden || !names.contains(m.getName()));
        }
        Constructor<?>[] made = c.getDeclaredConstructors();
        check.due("constructors", made.length, 1);
        check.due("its parameters", made[0].getParameterCount(), 0);
        check.due("it is public", made[0].getModifiers(), Modifier.PUBLIC);
    }

    private static String signature(Method m) {
        StringBuilder text = new StringBuilder(m.getName()).append('(');
        for (Class<?> p : m.getParameterTypes()) {
            text.append(p.descriptorString());
        }
        return text.append(')').append(m.getReturnType().descriptorString()).toString();
    }

    private static void constants() {
        check.due("NONE", TerrainTiler.NONE, -1);
        check.due("BAD_INDEX", TerrainTiler.BAD_INDEX, -2);
        check.due("BAD_VALUE", TerrainTiler.BAD_VALUE, -3);
        check.due("BAD_STATE", TerrainTiler.BAD_STATE, -4);
        check.due("FULL", TerrainTiler.FULL, -5);
        int open = 0;
        for (Field f : TerrainTiler.class.getDeclaredFields()) {
            open += Modifier.isPrivate(f.getModifiers()) ? 0 : 1;
        }
        check.due("fields that are not private", open, 5);
    }

    private static void nested() {
        Class<?>[] inside = TerrainTiler.class.getDeclaredClasses();
        check.holds("at most twelve classes", inside.length + 1 <= 12);
        for (Class<?> c : inside) {
            check.holds(c + " is static", Modifier.isStatic(c.getModifiers()));
            check.holds(c + " is private", Modifier.isPrivate(c.getModifiers()));
            fields(c);
        }
        fields(TerrainTiler.class);
    }

    private static void fields(Class<?> c) {
        int many = 0;
        for (Field f : c.getDeclaredFields()) {
            boolean fixed = Modifier.isStatic(f.getModifiers());
            many += fixed ? 0 : 1;
            check.holds(f + " is final", !fixed || Modifier.isFinal(f.getModifiers()));
        }
        check.holds(c + " has at most twenty fields", many <= 20);
        for (Method m : c.getDeclaredMethods()) {
            check.holds(m + " has at most seven parameters", m.getParameterCount() <= 7);
        }
    }

    private static void source() throws Exception {
        String source = Files.readString(Path.of("src/main/java/TerrainTiler.java"));
        String code = source.replaceAll("(?s)/\\*.*?\\*/", "").replaceAll("//[^\n]*", "");
        for (String word : FORBIDDEN) {
            String edge = Character.isLetter(word.charAt(0)) ? "\\b" : "";
            Matcher found = Pattern.compile(edge + Pattern.quote(word)).matcher(code);
            check.holds("no '" + word + "'", !found.find());
        }
        Matcher made = Pattern.compile("(?m)^.*\\bnew\\b.*$").matcher(code);
        while (made.find()) {
            String line = made.group();
            boolean field = line.contains("private final") || line.contains("states[i] = new State()");
            check.holds("only constructors make objects: " + line.trim(), field);
        }
        for (int i = 0; i < source.length(); i++) {
            check.holds("plain signs", source.charAt(i) < 128);
        }
    }
}
