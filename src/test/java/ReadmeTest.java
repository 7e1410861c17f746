import java.lang.reflect.Field;
import java.lang.reflect.Method;
import java.lang.reflect.Modifier;
import java.nio.file.Files;
import java.nio.file.Path;
import java.util.regex.Matcher;
import java.util.regex.Pattern;

/** That the calls in README.md answer what stands behind them, and that all calls are told there. */
public final class ReadmeTest {
    private static final Pattern BLOCK = Pattern.compile("(?s)```java\n(.*?)```");
    private static final Pattern CALL =
            Pattern.compile("tiler\\.(\\w+)\\((.*)\\); +// (-?\\d+)(: .*)?");
    private static final String MADE = "TerrainTiler tiler = new TerrainTiler();";
    private static final Check check = new Check("ReadmeTest");

    public static void main(String[] args) throws Exception {
        String page = Files.readString(Path.of("README.md"));
        examples(page);
        calls(page);
        constants(page);
        check.end();
    }

    private static void examples(String page) throws Exception {
        Matcher block = BLOCK.matcher(page);
        int blocks = 0;
        while (block.find()) {
            example(block.group(1).split("\n"));
            blocks++;
        }
        check.due("examples", blocks, 2);
    }

    private static void example(String[] lines) throws Exception {
        check.holds("an example begins with " + MADE, lines[0].equals(MADE));
        TerrainTiler tiler = new TerrainTiler();
        for (int i = 1; i < lines.length; i++) {
            Matcher call = CALL.matcher(lines[i]);
            boolean told = call.matches();
            check.holds("a call with its answer: " + lines[i], told);
            if (told) {
                long got = answer(tiler, call.group(1), call.group(2));
                check.due(lines[i], got, Long.parseLong(call.group(3)));
                constantIn(call.group(4), got);
            }
        }
    }

    private static long answer(TerrainTiler tiler, String name, String inside) throws Exception {
        String[] words = inside.isEmpty() ? new String[0] : inside.split(", ");
        for (Method method : TerrainTiler.class.getDeclaredMethods()) {
            if (method.getName().equals(name) && method.getParameterCount() == words.length) {
                Object[] values = new Object[words.length];
                for (int i = 0; i < words.length; i++) {
                    values[i] = value(words[i]);
                }
                return ((Number) method.invoke(tiler, values)).longValue();
            }
        }
        throw new IllegalStateException("README.md calls " + name + ", which there is not");
    }

    private static Object value(String word) {
        if (word.equals("true") || word.equals("false")) {
            return Boolean.valueOf(word);
        }
        return word.charAt(0) == '\'' ? (int) word.charAt(1) : Integer.parseInt(word);
    }

    /** Where the words behind an answer begin with a constant, it is this one. */
    private static void constantIn(String words, long got) throws Exception {
        for (Field field : TerrainTiler.class.getFields()) {
            if (words != null && words.startsWith(": " + field.getName() + ",")) {
                check.due(field.getName(), field.getInt(null), got);
            }
        }
    }

    private static void calls(String page) {
        Matcher rows = Pattern.compile("(?m)^\\| `(\\w+)\\((.*?)\\)`( \\*)? \\|").matcher(page);
        StringBuilder told = new StringBuilder(" ");
        while (rows.find()) {
            int many = rows.group(2).isEmpty() ? 0 : rows.group(2).split(", ").length;
            told.append(rows.group(1)).append('/').append(many).append(' ');
        }
        int open = 0;
        for (Method method : TerrainTiler.class.getDeclaredMethods()) {
            if (Modifier.isPublic(method.getModifiers())) {
                String row = " " + method.getName() + "/" + method.getParameterCount() + " ";
                check.holds("a row about" + row, told.indexOf(row) >= 0);
                open++;
            }
        }
        check.due("rows about calls", told.toString().trim().split(" ").length, open);
    }

    private static void constants(String page) throws Exception {
        for (Field field : TerrainTiler.class.getFields()) {
            String row = "| `" + field.getName() + "` | " + field.getInt(null) + " |";
            check.holds("a row that begins with " + row, page.contains(row));
        }
    }
}
