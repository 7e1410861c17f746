/** Promises 35 to 40: each sentence on the text and what is written that names a boundary case. */
public final class TextEdgesTest {
    private static final int NONE = TerrainTiler.NONE, BAD_INDEX = TerrainTiler.BAD_INDEX;
    private static final int BAD_VALUE = TerrainTiler.BAD_VALUE, BAD_STATE = TerrainTiler.BAD_STATE;
    private static final int FULL = TerrainTiler.FULL;
    private static final int LOW = Integer.MIN_VALUE, HIGH = Integer.MAX_VALUE;
    private static final String ROW = "/2a";
    private static final Check check = new Check("TextEdgesTest");

    public static void main(String[] args) {
        atMost150Bytes();
        fullText();
        bytesOutOfRange();
        emptied();
        letters();
        numbersFrom1To11();
        rowsFromAbove();
        longAndShortRows();
        manyAndFewRows();
        blanksAnywhere();
        blanksWithinNumbers();
        firstByteNotAllowed();
        otherBytes();
        numberOutOfRange();
        numberAtTheEnd();
        numberWithThreeDigits();
        leadingZero();
        secondNumber();
        longerThanTheFirstRow();
        longerThan11();
        slashBehindAShorterRow();
        slashBehindOneCorner();
        slashBehindThe11thRow();
        endsWithAShortRow();
        endsWithTheFirstRow();
        endsBehindANumber();
        checkedAgain();
        loads();
        loadsFaults();
        writesFewItems();
        nothingWrittenAtFirst();
        writesInPlace();
        writtenPositions();
        check.end();
    }

    private static TerrainTiler typed(String text) {
        TerrainTiler x = new TerrainTiler();
        Check.type(x, text);
        return x;
    }

    private static void fault(String text, int want) {
        TerrainTiler x = typed(text);
        check.due("textFault of '" + text + "'", x.textFault(), want);
        int cells = x.load();
        check.due("load of '" + text + "'", Math.min(cells, 0), want == NONE ? 0 : BAD_STATE);
    }

    /** That a text has no fault, and gives this map. */
    private static void gives(String text, String map) {
        fault(text, NONE);
        TerrainTiler x = typed(text);
        x.load();
        check.map(text, x, map);
    }

    private static void atMost150Bytes() {
        check.says("A map can be given by a text of at most 150 bytes");
        String full = " ".repeat(145) + "2a/2b";
        gives(full, "2a/2b");
        gives("2a/2b" + " ".repeat(145), "2a/2b");
        TerrainTiler x = typed(full + "c");
        check.due("a byte too many", x.textFault(), NONE);
        check.due("a byte too many", x.clearText(), 150);
        TerrainTiler late = typed(" ".repeat(149) + "x");
        check.due("the last byte counts", late.textFault(), 149);
        check.due("all blanks", typed(" ".repeat(150)).textFault(), 150);
        check.due("a number at the end", typed(" ".repeat(145) + "2a/11").textFault(), 150);
        check.due("a number at the end", typed(" ".repeat(145) + "2a/12").textFault(), 148);
        check.due("a number at the end", typed(" ".repeat(144) + "2a/111").textFault(), 147);
        check.due("a digit at the end", typed(" ".repeat(146) + "2a/1").textFault(), 150);
    }

    private static void fullText() {
        check.says("FULL if the text has 150 bytes.");
        TerrainTiler x = new TerrainTiler();
        for (int i = 1; i <= 150; i++) {
            check.due("type", x.type(i), i);
        }
        check.due("full", x.type(0), FULL);
        check.due("full", x.type(255), FULL);
        check.due("full still", x.type('a'), FULL);
        check.due("clearText", x.clearText(), 150);
        check.due("room again", x.type('a'), 1);
    }

    private static void bytesOutOfRange() {
        check.says("Returns the length of the text; BAD_VALUE if code is out of range");
        TerrainTiler x = new TerrainTiler();
        for (int bad : new int[] {LOW, -256, -1, 256, 257, 256 + 'a', HIGH}) {
            check.due("type(" + bad + ")", x.type(bad), BAD_VALUE);
        }
        check.due("the lowest", x.type(0), 1);
        check.due("the highest", x.type(255), 2);
        for (int i = 3; i <= 150; i++) {
            x.type(0);
        }
        check.due("BAD_VALUE is before FULL", x.type(256), BAD_VALUE);
        check.due("BAD_VALUE is before FULL", x.type(-1), BAD_VALUE);
        check.due("clearText", x.clearText(), 150);
    }

    private static void emptied() {
        check.says("Returns the length that it had.");
        TerrainTiler x = new TerrainTiler();
        check.due("empty at first", x.clearText(), 0);
        Check.type(x, "2a/2a");
        check.due("five", x.clearText(), 5);
        check.due("empty", x.clearText(), 0);
        check.due("nothing is left", x.textFault(), 0);
        check.due("nothing is left", x.load(), BAD_STATE);
        Check.type(x, "2b");
        check.due("not of the text before", x.textFault(), 2);
        Check.type(x, ROW);
        check.due("a new text", x.load(), 1);
        check.due("a new text", x.corner(0, 0), 1);
        check.due("load leaves the text", x.clearText(), 5);
    }

    private static void letters() {
        check.says("The letters a to f stand for the terrains 0 to 5");
        TerrainTiler x = typed("abcdef/fedcba");
        check.due("load", x.load(), 5);
        for (int i = 0; i < 6; i++) {
            check.due("corner", x.corner(i, 0), i);
            check.due("corner", x.corner(i, 1), 5 - i);
        }
        fault("2`/2a", 1);
        fault("2g/2a", 1);
        fault("2A/2a", 1);
        fault("2F/2a", 1);
    }

    private static void numbersFrom1To11() {
        check.says("a number in front of one, 1 to 11, with one or two digits, tells how many corners "
                + "have it.");
        for (int many = 2; many <= 11; many++) {
            String text = many + "c/" + many + "d";
            gives(text, text);
            check.due("w", loaded(text).size(0), many - 1);
        }
        gives("1a1b/1c1d", "ab/cd");
        gives("10ab/a10b", "10ab/a10b");
        fault("0a", 0);
        fault("12a", 0);
        fault("99a", 0);
    }

    private static TerrainTiler loaded(String text) {
        TerrainTiler x = typed(text);
        x.load();
        return x;
    }

    private static void rowsFromAbove() {
        check.says("A row gives the terrains of the corners of one y, from the left to the right, the "
                + "first row those of y = 0.");
        TerrainTiler x = loaded("abc/def/2ba/c2a");
        int[] want = {0, 1, 2, 3, 4, 5, 1, 1, 0, 2, 0, 0};
        for (int i = 0; i < want.length; i++) {
            check.due("corner", x.corner(i % 3, i / 3), want[i]);
        }
        check.due("w", x.size(0), 2);
        check.due("h", x.size(1), 3);
    }

    private static void longAndShortRows() {
        check.says("All rows are equally long, 2 to 11 corners, and there are 2 to 11 rows.");
        gives("ab/cd", "ab/cd");
        gives("11a/11b", "11a/11b");
        gives("abcdefabcde/11f", "abcdefabcde/11f");
        fault("a/b", 1);
        fault("12a/12b", 0);
        fault("11aa/11b", 3);
        fault("ab/abc", 5);
        fault("abc/ab", 6);
    }

    private static void manyAndFewRows() {
        check.says("and there are 2 to 11 rows.");
        for (int rows = 1; rows <= 12; rows++) {
            String text = "2a" + ROW.repeat(rows - 1);
            fault(text, rows == 1 ? 2 : rows == 12 ? 2 + 3 * 10 : NONE);
            if (rows > 1 && rows < 12) {
                check.due("h", loaded(text).size(1), rows - 1);
            }
        }
        String largest = "11a" + "/11f".repeat(10);
        check.due("the largest map", typed(largest).load(), 100);
        check.due("the smallest map", typed("2a/2a").load(), 1);
    }

    private static void blanksAnywhere() {
        check.says("Blanks (32) may stand anywhere except within numbers.");
        gives("  2a/2b", "2a/2b");
        gives("2  a/2b", "2a/2b");
        gives("2a  /2b", "2a/2b");
        gives("2a/  2b", "2a/2b");
        gives("2a/2b  ", "2a/2b");
        gives("a b / c d", "ab/cd");
        gives(" 10 a b / 11 c ", "10ab/11c");
        fault("2a\t/2b", 2);
        fault("2a\n/2b", 2);
        fault("2a/2b\0", 5);
    }

    private static void blanksWithinNumbers() {
        check.says("anywhere except within numbers");
        fault("1 0a", 2);
        fault("1 1a/11a", 2);
        fault("2a/0 2a", 3);
        fault("2a/1 2a", 5);
        fault("1  1", 3);
        fault("2a/2 ", 5);
    }

    private static void firstByteNotAllowed() {
        check.says("The fault of the text is the position, from 0, of the first byte that is not allowed "
                + "at its place, or its length, if it ends too early.");
        fault("x", 0);
        fault("/", 0);
        fault("2a/2ax", 5);
        fault("2ax/2ax", 2);
        fault("2a/x", 3);
        fault("2x", 1);
        fault("2/2a", 1);
        fault("2a//2a", 3);
        fault("2a/2/", 4);
        fault("2a/2a/2a/x", 9);
        fault("gg", 0);
        fault("2a/2", 4);
        fault("2a/2a", NONE);
    }

    private static void otherBytes() {
        check.says("The fault of the text is the position");
        for (int code = 0; code < 256; code++) {
            String sign = String.valueOf((char) code);
            boolean letter = isLetter(code);
            boolean digit = isDigit(code);
            fault(sign, letter || digit || code == ' ' ? 1 : 0);
            fault("b" + sign, letter || digit || code == ' ' ? 2 : 1);
            fault("2" + sign, letter || code == ' ' ? 2 : digitBehind2(code) ? 0 : 1);
            fault("2a" + sign, letter || digit || code == ' ' || code == '/' ? 3 : 2);
            fault("2a/" + sign, letter || digit || code == ' ' ? 4 : 3);
            fault("2a/b" + sign, letter ? NONE : digit || code == ' ' ? 5 : 4);
            fault("2a/2b" + sign, code == ' ' ? NONE : digit || code == '/' ? 6 : 5);
        }
    }

    private static boolean isLetter(int code) {
        return "abcdef".indexOf(code) >= 0;
    }

    /** A digit that is a number of its own: 0 is none. */
    private static boolean isDigit(int code) {
        return "123456789".indexOf(code) >= 0;
    }

    /** 20 to 29 are out of range, so that the 2 is the fault. */
    private static boolean digitBehind2(int code) {
        return "0123456789".indexOf(code) >= 0;
    }

    private static void numberOutOfRange() {
        check.says("the first digit of a number that is out of its range");
        for (int number = 0; number < 100; number++) {
            boolean out = number < 1 || number > 11;
            fault(number + "a", out ? 0 : (number + "a").length());
            fault("2a/" + number + "b", out ? 3 : number == 1 ? 5 : number == 2 ? NONE : 3 + len(number));
            fault("  " + number, out ? 2 : 2 + len(number));
        }
        fault("2a/2a/12", 6);
        fault("11a12", 3);
    }

    private static int len(int number) {
        return String.valueOf(number).length();
    }

    private static void numberAtTheEnd() {
        check.says("(also if the text ends behind it; 01 is 1, and in \"1 1a\" the second 1 is not allowed)");
        fault("0", 0);
        fault("00", 0);
        fault("12", 0);
        fault("99", 0);
        fault("111", 0);
        fault("2a/0", 3);
        fault("2a/12", 3);
        fault("2a/000", 3);
        fault("2a/2a0", 5);
        fault("2a/2a12", 5);
        fault("12  ", 0);
        fault("1 1a", 2);
    }

    private static void numberWithThreeDigits() {
        check.says("or has more than two digits");
        fault("001a", 0);
        fault("010a", 0);
        fault("011a/11a", 0);
        fault("100a", 0);
        fault("111a", 0);
        fault("0000000001a", 0);
        fault("2a/002a", 3);
        fault("2a/1a001a", 5);
        fault("a001a/2a", 1);
    }

    private static void leadingZero() {
        check.says("01 is 1");
        gives("01a01b/02c", "ab/2c");
        gives("09a02b/11c", "9a2b/11c");
        fault("00a", 0);
        fault("01", 2);
        fault("01/2a", 2);
    }

    private static void secondNumber() {
        check.says("in \"1 1a\" the second 1 is not allowed");
        fault("1 1a", 2);
        fault("1 1", 2);
        fault("1 0", 2);
        fault("1 123", 2);
        fault("11 1a", 3);
        fault("2a/1   1a", 7);
        fault("0 1a", 0);
    }

    private static void longerThanTheFirstRow() {
        check.says("the letter of an item with which the row becomes longer than the first row");
        fault("2a/3a", 4);
        fault("2a/11a", 5);
        fault("2a/2aa", 5);
        fault("2a/a2a", 5);
        fault("2a/aa1a", 6);
        fault("2a/2a/3a", 7);
        fault("10a/11a", 6);
        fault("2a/3 a", 5);
        fault("2a/3a/2a", 4);
        fault("11a/11aa", 7);
        fault("11a/11a11a", 9);
        gives("3a/2ab", "3a/2ab");
    }

    private static void longerThan11() {
        check.says("or, in the first row, than 11");
        fault("11ab", 3);
        fault("10a2b", 4);
        fault("a11b", 3);
        fault("11a11b", 5);
        fault("abcdefabcdef", 11);
        fault("6a6b/", 3);
        gives("10ab/11c", "10ab/11c");
        gives("6a5b/11c", "6a5b/11c");
    }

    private static void slashBehindAShorterRow() {
        check.says("a \"/\" behind a row that is shorter than the first one");
        fault("2a//2a", 3);
        fault("2a/a/2a", 4);
        fault("3a/2a/", 5);
        fault("11a/10a/11a", 7);
        fault("3a/3a/ab/", 8);
        fault("2a/ /2a", 4);
        fault("2a/2a//", 6);
        gives("3a/2ab/3c", "3a/2ab/3c");
    }

    private static void slashBehindOneCorner() {
        check.says("or, if it is the first one, has only one corner");
        fault("a/", 1);
        fault("a/a", 1);
        fault("1a/a", 2);
        fault("01a/a", 3);
        fault("a /a", 2);
        fault("/2a", 0);
        fault(" /2a", 1);
        gives("ab/cd", "ab/cd");
    }

    private static void slashBehindThe11thRow() {
        check.says("a \"/\" behind the 11th row.");
        String eleven = "2a" + ROW.repeat(10);
        fault(eleven, NONE);
        fault(eleven + " ", NONE);
        fault(eleven + "/", 32);
        fault(eleven + "  /2a", 34);
        fault("2a" + ROW.repeat(9) + "/", 30);
        fault("2a" + ROW.repeat(9) + "/a/", 31);
        fault("2a" + ROW.repeat(9) + "/a", 31);
        fault(eleven + "a", 32);
        check.due("ten rows of cells", loaded(eleven).size(1), 10);
    }

    private static void endsWithAShortRow() {
        check.says("The text ends too early if its last row is too short in this sense");
        fault("2a/", 3);
        fault("2a/ ", 4);
        fault("2a/a", 4);
        fault("3a/2a", 5);
        fault("3a/2a  ", 7);
        fault("11a/10a", 7);
        fault("2a/2a/", 6);
        fault("2a/2a/a", 7);
    }

    private static void endsWithTheFirstRow() {
        check.says("or is the first one (also if it is empty).");
        fault("", 0);
        fault(" ", 1);
        fault("   ", 3);
        fault("a", 1);
        fault("2a", 2);
        fault("ab", 2);
        fault("11a", 3);
        fault("abcdefabcde", 11);
        fault("11a ", 4);
    }

    private static void endsBehindANumber() {
        check.says("or its length, if it ends too early.");
        fault("1", 1);
        fault("11", 2);
        fault("01", 2);
        fault("2a1", 3);
        fault("2a/1", 4);
        fault("2a/a1", 5);
        fault("2a/2a1", 6);
        fault("2a/2a11", 7);
        fault("2a/2a 1 ", 8);
        fault("11a1", 4);
    }

    private static void checkedAgain() {
        check.says("Checks the text.");
        TerrainTiler x = new TerrainTiler();
        String text = "2a/2a/11";
        int[] want = {0, 1, 2, 3, 4, NONE, 6, 7, 8};
        for (int i = 0; i <= text.length(); i++) {
            check.due("after " + i + " bytes", x.textFault(), want[i]);
            check.due("the same again", x.textFault(), want[i]);
            if (i < text.length()) {
                x.type(text.charAt(i));
            }
        }
        x.clearText();
        check.due("an empty text again", x.textFault(), 0);
        Check.type(x, "3b/b2b");
        check.due("another text", x.textFault(), NONE);
        x.type('/');
        check.due("with a row more", x.textFault(), 7);
        x.type('x');
        check.due("with a fault", x.textFault(), 7);
        x.clearText();
        Check.type(x, "ab/cd");
        check.due("shorter rows", x.textFault(), NONE);
    }

    private static void loads() {
        check.says("Makes the new map of the text, without paths.");
        TerrainTiler x = Check.begun(10, 10, 5);
        x.setPath(0, 0, true);
        x.setPath(1, 0, true);
        x.paint();
        Check.type(x, "abc/abc");
        check.due("load", x.load(), 2);
        check.due("no paths", x.size(2), 0);
        check.due("nothing painted", x.painted(0, 0), 0);
        check.due("touched", x.touched(), 2);
        check.due("cells beyond", x.hasPath(2, 0), BAD_INDEX);
        check.map("load", x, "abc/abc");
        x.setCorner(0, 0, 5);
        check.due("load again", x.load(), 2);
        check.map("load again", x, "abc/abc");
        String largest = "11a" + "/abcdefabcde".repeat(10);
        check.due("the largest map", typed(largest).load(), 100);
        check.due("its last corner", loaded(largest).corner(10, 10), 4);
        TerrainTiler one = typed("ab/cd");
        check.due("the smallest map", one.load(), 1);
        check.due("its last corner", one.corner(1, 1), 3);
    }

    private static void loadsFaults() {
        check.says("Returns the number of cells; BAD_STATE if the text has a fault.");
        for (String text : new String[] {"", "2a", "2a/", "2a/3a", "2a/2ax", "0", "2a/2a1"}) {
            TerrainTiler x = typed(text);
            long before = x.digest();
            check.due("load of '" + text + "'", x.load(), BAD_STATE);
            check.due("digest", x.digest(), before);
            check.due("the text stays", x.clearText(), text.length());
            check.due("not recorded", x.undo(), BAD_STATE);
        }
    }

    private static void writesFewItems() {
        check.says("A map is written with as few items as possible, without blanks, and without the "
                + "number 1.");
        gives("a a / b b", "2a/2b");
        gives("1a1b/1b1a", "ab/ba");
        gives("01a 01a 01b/3f", "2ab/3f");
        gives("5a5a/5b5b", "10a/10b");
        gives("5a6a/4bb5bb", "11a/11b");
        gives("4a5a/aabbbbaaa", "9a/2a4b3a");
        gives("aa/aa/ab", "2a/2a/ab");
        gives("ab/bb", "ab/2b");
        TerrainTiler x = Check.begun(10, 10, 0);
        check.due("the largest map in one terrain", x.write(), 43);
        for (int i = 1; i < 121; i += 2) {
            x.setCorner(i % 11, i / 11, 5);
        }
        check.due("the longest", x.write(), 131);
        check.due("the last byte", x.written(130), 'a');
        check.due("behind it", x.written(131), BAD_INDEX);
        check.due("the shortest", Check.begun(1, 1, 0).write(), 5);
    }

    private static void nothingWrittenAtFirst() {
        check.says("nothing is written.");
        TerrainTiler x = new TerrainTiler();
        for (int index : new int[] {LOW, -1, 0, 1, 14, 149, 150, HIGH}) {
            check.due("written(" + index + ")", x.written(index), BAD_INDEX);
        }
        Check.type(x, "2a/2a");
        x.load();
        check.due("the text is not what is written", x.written(0), BAD_INDEX);
    }

    private static void writesInPlace() {
        check.says("in place of what was written before.");
        TerrainTiler x = loaded("abc/def");
        check.due("write", x.write(), 7);
        x.fill(0, 0, 2, 1, 1);
        check.due("until the next write", x.written(0), 'a');
        check.due("until the next write", x.written(6), 'f');
        check.due("shorter", x.write(), 5);
        check.due("its first byte", x.written(0), '3');
        check.due("its last byte", x.written(4), 'b');
        check.due("nothing of the one before", x.written(5), BAD_INDEX);
        check.due("the same again", x.write(), 5);
        check.due("the text stays", x.clearText(), 7);
    }

    private static void writtenPositions() {
        check.says("Returns the byte; BAD_INDEX if there is no such position.");
        TerrainTiler x = loaded("11a/a10b");
        String want = "11a/a10b";
        check.due("write", x.write(), want.length());
        for (int i = 0; i < want.length(); i++) {
            check.due("written(" + i + ")", x.written(i), want.charAt(i));
        }
        for (int bad : new int[] {LOW, -2, -1, 8, 9, 130, 131, 149, 150, HIGH}) {
            check.due("written(" + bad + ")", x.written(bad), BAD_INDEX);
        }
    }
}
