/** Promises 35 to 41: the text, its fault, load, write and the digest. */
public final class TextTest {
    private static final int BAD_INDEX = TerrainTiler.BAD_INDEX, BAD_VALUE = TerrainTiler.BAD_VALUE;
    private static final int BAD_STATE = TerrainTiler.BAD_STATE, FULL = TerrainTiler.FULL;
    private static final int NONE = TerrainTiler.NONE;
    private static final int LOW = Integer.MIN_VALUE, HIGH = Integer.MAX_VALUE;
    private static final Check check = new Check("TextTest");

    public static void main(String[] args) {
        promise35and36();
        promise37();
        promise38();
        promise39and40();
        promise41();
        check.end();
    }

    private static void promise35and36() {
        TerrainTiler x = new TerrainTiler();
        for (int i = 1; i <= 150; i++) {
            check.due("type", x.type(i % 2 == 0 ? 0 : 255), i);
        }
        check.due("type", x.type(97), FULL);
        check.due("type", x.type(0), FULL);
        for (int bad : new int[] {LOW, -1, 256, HIGH}) {
            check.due("type", x.type(bad), BAD_VALUE);
        }
        check.due("clearText", x.clearText(), 150);
        check.due("clearText", x.clearText(), 0);
        check.due("type", x.type(256), BAD_VALUE);
        check.due("type", x.type(97), 1);
        check.due("clearText", x.clearText(), 1);
        check.due("not recorded", x.undo(), BAD_STATE);
    }

    private static void fault(String text, int want) {
        TerrainTiler x = new TerrainTiler();
        Check.type(x, text);
        check.due("textFault of '" + text + "'", x.textFault(), want);
        long before = x.digest();
        int loaded = x.load();
        check.due("load of '" + text + "'", Math.min(loaded, 0), want == NONE ? 0 : BAD_STATE);
        if (want != NONE) {
            check.due("digest", x.digest(), before);
            check.due("not recorded", x.undo(), BAD_STATE);
        }
    }

    private static void promise37() {
        endsTooEarly();
        numbers();
        rows();
        blanks();
        otherBytes();
        usedAgain();
    }

    /** Bytes of an earlier text are gone, and the last byte of a full one has none behind it. */
    private static void usedAgain() {
        TerrainTiler x = new TerrainTiler();
        Check.type(x, "111111111111");
        check.due("textFault", x.textFault(), 0);
        x.clearText();
        x.type('1');
        check.due("one digit", x.textFault(), 1);
        x.type('1');
        check.due("two digits", x.textFault(), 2);
        x.clearText();
        Check.type(x, "3a/3a");
        check.due("textFault", x.textFault(), NONE);
        x.clearText();
        Check.type(x, "2a/2a");
        check.due("shorter rows", x.textFault(), NONE);
        String blanks = " ".repeat(145);
        fault(blanks + "2a/2a", NONE);
        fault(blanks + "2a/a1", 150);
        fault(blanks + "2a/11", 150);
        fault(blanks + "2a/12", 148);
        fault(blanks.substring(1) + "2a/111", 147);
    }

    private static void endsTooEarly() {
        fault("", 0);
        fault("a", 1);
        fault("ab", 2);
        fault("11a", 3);
        fault("ab/", 3);
        fault("ab/a", 4);
        fault("3a/2a", 5);
        fault("1", 1);
        fault("11", 2);
        fault("2a/2a1", 6);
        fault("2a/2a11", 7);
        fault("2a/2a3", 6);
        fault("2a/2a/", 6);
        fault("2a/2a/a", 7);
        fault("2a/2a/a1", 8);
    }

    private static void numbers() {
        fault("01ab/2a", NONE);
        fault("11a/11b", NONE);
        fault("09ab/10c", NONE);
        fault("0a", 0);
        fault("00a", 0);
        fault("0", 0);
        fault("00", 0);
        fault("12a", 0);
        fault("12", 0);
        fault("99", 0);
        fault("011a", 0);
        fault("001a", 0);
        fault("111", 0);
        fault("123456789", 0);
        fault("a12a", 1);
        fault("ab/0", 3);
        fault("ab/20", 3);
        fault("ab/ab12", 5);
        fault("ab/ab0", 5);
        fault("1 1a", 2);
        fault("1 1", 2);
        fault("1 123", 2);
        fault("0 1a", 0);
        fault("2/ab", 1);
        fault("ab2/ab", 3);
        fault("ab/1/", 4);
    }

    private static void rows() {
        fault("ab/cd", NONE);
        fault("/ab", 0);
        fault("a/ab", 1);
        fault("a/a", 1);
        fault("1a/a", 2);
        fault("ab//ab", 3);
        fault("ab/a/ab", 4);
        fault("ab/abc", 5);
        fault("ab/a2b", 5);
        fault("ab/3a", 4);
        fault("6a6b", 3);
        fault("11ab", 3);
        fault("6a5b/11a", NONE);
        fault("10aa/11a", NONE);
        fault("abcdefabcdef", 11);
        StringBuilder many = new StringBuilder("ab");
        for (int i = 2; i <= 11; i++) {
            many.append("/ab");
            fault(many.toString(), NONE);
        }
        fault(many + "/", 32);
        fault(many + "/ab", 32);
        fault(many + "a", 32);
    }

    private static void blanks() {
        fault(" ", 1);
        fault("   ", 3);
        fault(" 2 a / b a ", NONE);
        fault("  11  a/ 10 a b", NONE);
        fault("1 0a", 2);
        fault("2a /2a", NONE);
        fault("2a/2a ", NONE);
        fault("2a/2a 1 ", 8);
        fault("ab / ", 5);
        fault("a /ab", 2);
    }

    private static void otherBytes() {
        for (int code = 0; code < 256; code++) {
            boolean digit = code >= '1' && code <= '9';
            boolean letter = code >= 'a' && code <= 'f';
            boolean allowed = digit || letter || code == ' ';
            fault(String.valueOf((char) code), allowed ? 1 : 0);
            fault("ab/ab" + (char) code, code == ' ' ? NONE : digit || code == '/' ? 6 : 5);
        }
        fault("ag", 1);
        fault("aA", 1);
        fault("a`", 1);
        fault("2a:2a", 2);
        fault("2a/2a\n", 5);
        fault("2a-", 2);
    }

    private static void promise38() {
        TerrainTiler x = new TerrainTiler();
        x.setPath(0, 0, true);
        x.setRank(0, 2);
        x.paint();
        Check.type(x, "2ab/ 3f/c 1d 01e/3a");
        check.due("load", x.load(), 6);
        check.due("w", x.size(0), 2);
        check.due("h", x.size(1), 3);
        check.due("no paths", x.size(2), 0);
        int[] due = {0, 0, 1, 5, 5, 5, 2, 3, 4, 0, 0, 0};
        for (int i = 0; i < due.length; i++) {
            check.due("corner", x.corner(i % 3, i / 3), due[i]);
        }
        check.due("touched", x.touched(), 6);
        check.due("stale", x.stale(), 6);
        check.due("painted", x.painted(0, 0), 0);
        check.due("the settings stay", x.rank(0), 2);
        check.due("load again", x.load(), 6);
        check.due("the text stays", x.clearText(), 19);
        check.due("load", x.load(), BAD_STATE);
        check.due("recorded", x.undo(), 4);
        check.due("recorded", x.undo(), 3);
        check.due("paths are back", x.size(2), 1);
        TerrainTiler large = new TerrainTiler();
        StringBuilder text = new StringBuilder("11a");
        for (int i = 1; i < 11; i++) {
            text.append("/abcdefabcde");
        }
        Check.type(large, text.toString());
        check.due("load the largest", large.load(), 100);
        check.due("corner", large.corner(10, 10), 4);
    }

    private static void written(String text, String want) {
        TerrainTiler x = Check.loaded(text);
        check.due("length", x.write(), want.length());
        for (int i = 0; i < want.length(); i++) {
            check.due("written(" + i + ")", x.written(i), want.charAt(i));
        }
        check.due("behind the end", x.written(want.length()), BAD_INDEX);
    }

    private static void promise39and40() {
        written("ab/ba", "ab/ba");
        written("aa/aa", "2a/2a");
        written(" 1a1a 1b / 2f 1f", "2ab/3f");
        written("5a6a/10ba", "11a/10ba");
        written("9ab/4a3a3a", "9ab/10a");
        written("11f/11e/11d", "11f/11e/11d");
        TerrainTiler x = Check.loaded("ab/ba");
        check.due("nothing yet", x.written(0), BAD_INDEX);
        x.write();
        x.setCorner(0, 0, 5);
        check.due("as it was", x.written(0), 'a');
        check.due("write", x.write(), 5);
        check.due("in place of it", x.written(0), 'f');
        x.fill(0, 0, 1, 1, 2);
        check.due("the same length", x.write(), 5);
        x.begin(10, 1, 3);
        check.due("write", x.write(), 7);
        x.begin(1, 1, 3);
        check.due("shorter", x.write(), 5);
        check.due("behind the end", x.written(5), BAD_INDEX);
        for (int bad : new int[] {LOW, -1, 131, 150, HIGH}) {
            check.due("written", x.written(bad), BAD_INDEX);
        }
        check.due("not recorded", Check.drain(x), 5);
        TerrainTiler large = new TerrainTiler();
        large.begin(10, 10, 0);
        for (int i = 0; i < 121; i += 2) {
            large.setCorner(i % 11, i / 11, 1);
        }
        check.due("the longest", large.write(), 131);
        check.due("its end", large.written(130), 'b');
    }

    private static long digestOf(int... numbers) {
        long h = 17;
        for (int v : numbers) {
            h = 31 * h + v;
        }
        return h;
    }

    private static void promise41() {
        TerrainTiler x = Check.loaded("ab/bb");
        check.due("digest", x.digest(), digestOf(1, 1, 0, 1, 1, 1, 0, -1, 1, 0, 1));
        x.paint();
        check.due("digest", x.digest(),
                digestOf(1, 1, 0, 1, 1, 1, 0, -1, 0, 2, 0, 15, 0, 0, 1, 14, 0, 0, 0));
        x.setPath(0, 0, true);
        check.due("digest", x.digest(),
                digestOf(1, 1, 0, 1, 1, 1, 1, 0, 1, 2, 0, 15, 0, 0, 1, 14, 0, 0, 1));
        x.setBorder(true);
        x.paint();
        check.due("digest", x.digest(),
                digestOf(1, 1, 0, 1, 1, 1, 1, 46, 0, 2, 0, 15, 0, 0, 1, 14, 0, 0, 0));
        TerrainTiler y = Check.loaded("aab/aaa");
        y.paintCell(1, 0);
        check.due("digest", y.digest(), digestOf(
                2, 1, 0, 0, 1, 0, 0, 0, 0, -1, 1, 0, 0, -1, 0, 2, 0, 15, 0, 0, 1, 2, 0, 0, 1));
        check.due("not recorded", Check.drain(y), 2);
    }
}
