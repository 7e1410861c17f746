import java.util.Random;

/** Promise 37 again: all short texts over the signs that matter, and long ones, by the Reference. */
public final class FaultsTest {
    private static final String SIGNS = "012a/ ";
    private static final int LONGEST = 6, LONG_TEXTS = 20000;
    private static final Check check = new Check("FaultsTest");

    public static void main(String[] args) {
        for (int length = 0; length <= LONGEST; length++) {
            allOf(length);
        }
        Random random = new Random(3);
        for (int i = 0; i < LONG_TEXTS; i++) {
            compare(longText(random));
        }
        check.end();
    }

    private static void allOf(int length) {
        int many = (int) Math.pow(SIGNS.length(), length);
        for (int n = 0; n < many; n++) {
            StringBuilder text = new StringBuilder();
            for (int rest = n, i = 0; i < length; i++, rest /= SIGNS.length()) {
                text.append(SIGNS.charAt(rest % SIGNS.length()));
            }
            compare(text.toString());
        }
    }

    /** Rows that are whole for the most part, so that the fault, if any, comes late. */
    private static String longText(Random random) {
        int w = 2 + random.nextInt(10);
        int h = 2 + random.nextInt(11);
        StringBuilder text = new StringBuilder();
        for (int y = 0; y < h; y++) {
            for (int left = w; left > 0; ) {
                int many = 1 + random.nextInt(left);
                String number = random.nextInt(20) == 0 ? "0" + many : String.valueOf(many);
                text.append(many == 1 && random.nextInt(9) > 0 ? "" : number);
                text.append(random.nextInt(30) == 0 ? " " : "");
                text.append((char) ('a' + random.nextInt(random.nextInt(200) == 0 ? 7 : 6)));
                left -= many - (random.nextInt(100) == 0 ? 1 : 0);
            }
            text.append(y < h - 1 || random.nextInt(20) == 0 ? "/" : "");
        }
        return text.toString();
    }

    private static void compare(String text) {
        TerrainTiler x = new TerrainTiler();
        Reference r = new Reference();
        for (int i = 0; i < text.length(); i++) {
            x.type(text.charAt(i));
            r.type(text.charAt(i));
        }
        check.due("textFault of '" + text + "'", x.textFault(), r.textFault());
        check.due("load of '" + text + "'", x.load(), r.load());
        check.due("w of '" + text + "'", x.size(0), r.size(0));
        check.due("corner of '" + text + "'", x.corner(1, 1), r.corner(1, 1));
    }
}
