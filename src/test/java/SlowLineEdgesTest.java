import java.util.ArrayList;
import java.util.List;

/** The boundary cases of the document's section "Drawing"; the comments are its sentences. */
public final class SlowLineEdgesTest {
    // What a row of four cells may be made of: empty, two signs, one with an attribute, one with a mark, a wide sign.
    private static final String[] PIECES = {"#[C", "a", "#[1mb#[m", "c`", "D"};
    private static final int[][] CELLS = {{0}, {97}, {1098}, {100099}, {68, -2}};

    public static void main(String[] args) {
        allRowsOfFour();
        for (int columns = 4; columns <= 24; columns++) {
            oneCell(columns);
            erasing(columns);
            passing(columns);
        }
        marks();
        attributes();
        emptyCells();
        wideSigns();
        dearestRow();
        likeRows();
        drawing();
        afterSize();
        wrongRows();
        Check.end();
    }

    // ---- all rows of four cells, compared with all ways to write them

    private static void combine(List<int[]> all, int[] pieces, int count, int width) {
        if (width == 4) {
            int[] one = new int[count];
            System.arraycopy(pieces, 0, one, 0, count);
            all.add(one);
            return;
        }
        for (int piece = 0; piece < PIECES.length; piece++) {
            if (width + CELLS[piece].length <= 4) {
                pieces[count] = piece;
                combine(all, pieces, count + 1, width + CELLS[piece].length);
            }
        }
    }

    private static void write(InputrowConsole x, int[] pieces) {
        x.code(false, 2, 0, 'J');
        x.code(false, 0, 0, 'H');
        for (int piece : pieces) {
            Check.write(x, PIECES[piece]);
        }
    }

    private static int[] cells(int[] pieces) {
        int[] cells = new int[4];
        int column = 0;
        for (int piece : pieces) {
            for (int cell : CELLS[piece]) {
                cells[column++] = cell;
            }
        }
        return cells;
    }

    private static void allRowsOfFour() {
        List<int[]> all = new ArrayList<>();
        combine(all, new int[4], 0, 0);
        Check.due("rows of four cells", all.size(), 305);
        for (int[] drawn : all) {
            InputrowConsole x = null;
            for (int i = 0; i < all.size(); i++) {
                if (i % 9 == 0) {
                    x = Check.with(2, 4, "");
                    write(x, drawn);
                    x.draw();
                }
                int[] wanted = all.get(i);
                write(x, wanted);
                int due = dearness(cells(wanted), cells(drawn));
                Check.due("from " + name(drawn) + " to " + name(wanted), x.least(0), due);
            }
        }
    }

    private static String name(int[] pieces) {
        StringBuilder text = new StringBuilder();
        for (int piece : pieces) {
            text.append(".abcD".charAt(piece));
        }
        return text.toString();
    }

    private static int dearness(int[] want, int[] have) {
        if (isLike(want, have, 0, 4)) {
            return 0;
        }
        int least = 1000;
        for (int start = 0; start < 4 && isLike(want, have, 0, start); start++) {
            if (want[start] != -2) {
                least = Math.min(least, 6 + from(want, have, start, 0));
            }
        }
        return least;
    }

    private static boolean isLike(int[] want, int[] have, int from, int end) {
        for (int i = from; i < end; i++) {
            if (want[i] != have[i]) {
                return false;
            }
        }
        return true;
    }

    private static int from(int[] want, int[] have, int at, int attribute) {
        if (isLike(want, have, at, 4)) {
            return 0;
        }
        int mine = want[at] / 1000 % 100;
        int next = at + 1 < 4 && want[at + 1] == -2 ? at + 2 : at + 1;
        int least = 1 + want[at] / 100000 + (mine == attribute ? 0 : 4) + from(want, have, next, mine);
        for (int end = at + 1; end < 4; end++) {
            if (isLike(want, have, at, end) && want[end] != -2) {
                least = Math.min(least, 4 + from(want, have, end, attribute));
            }
        }
        boolean isEmpty = true;
        for (int i = at; i < 4; i++) {
            isEmpty = isEmpty && want[i] == 0;
        }
        return isEmpty ? Math.min(least, 3) : least;
    }

    // ---- sentence by sentence

    private static int least(int columns, String drawn, String then) {
        InputrowConsole x = Check.with(2, columns, drawn);
        x.draw();
        Check.write(x, then);
        int least = x.least(0);
        Check.due("draw() behind " + drawn + ", " + then, x.draw(), least);
        Check.due("like behind " + drawn + ", " + then, x.least(0), 0);
        return least;
    }

    /** A row costs 6 for going to some cell of it; a cell costs 1. */
    private static void oneCell(int columns) {
        for (int column = 1; column <= columns; column++) {
            String there = "#[1;" + column + "H";
            Check.due("a sign at " + column + " of " + columns, least(columns, "", there + "a"), 7);
            Check.due("an empty cell at " + column + " of " + columns, least(columns, there + "a", there + "#[X"), 7);
            Check.due("another sign at " + column + " of " + columns, least(columns, there + "a", there + "b"), 7);
            if (column < columns) {
                Check.due("a wide sign at " + column + " of " + columns, least(columns, "", there + "A"), 7);
            }
        }
    }

    /** To erase all cells from there on to the end costs 3, if all of these shall be empty. */
    private static void erasing(int columns) {
        String full = "abcdefghijklmnopqrstuvwx".substring(0, columns);
        for (int count = 1; count <= columns; count++) {
            String there = "#[1;" + (columns - count + 1) + "H";
            Check.due("the last " + count + " of " + columns, least(columns, full, there + "#[K"), 6 + Math.min(count, 3));
            int rest = columns - count;
            if (rest > 0) {
                Check.due("the first " + count + " of " + columns, least(columns, full, "#[H#[" + count + "X"), 6 + count);
                Check.due("a sign and the last " + rest + " of " + columns, least(columns, full, "\rz#[K"),
                        6 + 1 + Math.min(columns - 1, 3));
            }
        }
    }

    /** To pass over any number of cells that are like costs 4. */
    private static void passing(int columns) {
        String full = "abcdefghijklmnopqrstuvwx".substring(0, columns);
        for (int count = 0; count <= columns - 2; count++) {
            String two = "\ry#[1;" + (count + 2) + "Hz";
            String name = count + " like ones of " + columns;
            Check.due(name, least(columns, full, two), 6 + 1 + Math.min(count, 4) + 1);
            int dear = count == 0 ? 0 : 4;
            Check.due(name + ", with an attribute", least(columns, "#[3m" + full, "#[m" + two), 6 + 1 + dear + 1);
            Check.due(name + ", empty", least(columns, "", two), 6 + 1 + Math.min(count, 4) + 1);
        }
    }

    /** A cell costs 1 and its marks (a wide sign with its tail likewise). */
    private static void marks() {
        for (int count = 0; count <= 3; count++) {
            String marks = "```".substring(0, count);
            Check.due(count + " marks", least(4, "", "a" + marks), 7 + count);
            Check.due(count + " marks of a wide sign", least(4, "", "A" + marks), 7 + count);
            if (count > 0) {
                Check.due(count + " marks more", least(4, "a", marks), 7 + count);
                Check.due(count + " marks less", least(4, "a" + marks, "\ra"), 7);
                Check.due(count + " marks of a cell that is like", least(6, "abb" + marks + "bc", "\rx#[1;5Hx"),
                        6 + 1 + Math.min(3 + count, 4) + 1);
            }
        }
    }

    /** And 4 more, if its attribute is unlike that of the one written ahead of it in the row (0 for the first one). */
    private static void attributes() {
        String[] codes = {"", "1", "2", "1;2", "3", "1;3", "2;3", "1;2;3", "4", "1;4", "2;4", "1;2;4", "3;4", "1;3;4", "2;3;4", "1;2;3;4"};
        for (int i = 0; i < codes.length; i++) {
            String code = "#[" + (i == 0 ? "" : codes[i]) + "m";
            int more = i == 0 ? 0 : 4;
            Check.due("attribute " + i, least(4, "", code + "a"), 7 + more);
            Check.due("attribute " + i + " of two", least(4, "", code + "ab"), 8 + more);
            Check.due("attribute " + i + " of a wide sign", least(4, "", code + "A"), 7 + more);
            Check.due("attribute " + i + ", then 0", least(4, "", code + "a#[mb"), 8 + 2 * more);
            Check.due("0, then attribute " + i, least(4, "", "a" + code + "b"), 8 + more);
        }
        Check.due("another one each time", least(4, "", "#[1ma#[2mb#[3mc#[4md"), 6 + 4 * 5);
        Check.due("a like one with it is written", least(4, "#[1mabc", "#[1m\rxb#[1;3Hy"), 6 + 4 + 3);
        Check.due("passed over, it does not count", least(8, "#[1mabcdef", "#[m\rx#[1;6Hy"), 6 + 1 + 4 + 1);
        Check.due("passed over, the one ahead counts", least(8, "abcdef", "#[1m\rx#[1;6Hy"), 6 + 5 + 4 + 1);
        Check.due("a new row begins with 0", rowsOfTwo(), 11 + 11);
    }

    private static int rowsOfTwo() {
        return Check.with(2, 4, "#[1ma\r\nb").draw();
    }

    /** An empty cell has the attribute 0. */
    private static void emptyCells() {
        Check.due("empty behind an attribute", least(4, "abcd", "#[1m\rx#[X"), 6 + 5 + 5);
        Check.due("two empty ones behind an attribute", least(5, "abcde", "#[1m\rx#[2X"), 6 + 5 + 6);
        Check.due("empty to the end behind an attribute", least(4, "abcd", "#[1m\rx#[K"), 6 + 5 + 3);
        Check.due("one to the end behind an attribute", least(4, "abcd", "#[1m#[1;3Hx#[K"), 6 + 5 + 3);
        Check.due("one to the end without", least(4, "abcd", "#[1;3Hx#[K"), 6 + 1 + 1);
        Check.due("empty ones that are like, between", least(8, "", "\ra#[1;6Hb"), 6 + 1 + 4 + 1);
        Check.due("erased, then a sign at the end", least(4, "abcd", "#[2K#[1;4Hd"), 6 + 3);
        Check.due("a sign at the end is like", least(6, "abcdef", "\r#[5X"), 6 + 5);
        Check.due("like empty ones at the end", least(8, "ab", "\r#[K"), 6 + 2);
        Check.due("like empty ones between the two", least(8, "a#[1;8Hb", "#[2K"), 6 + 3);
    }

    /** A wide sign is written or passed over with its tail. */
    private static void wideSigns() {
        Check.due("instead of two", least(4, "ab", "\rC"), 7);
        Check.due("two instead of it", least(4, "C", "\rab"), 8);
        Check.due("one column further", least(4, "A", "#[2K#[1;2HA"), 8);
        Check.due("passed", least(8, "aBCd", "\rx#[1;6Hy"), 6 + 1 + 2 + 1);
        Check.due("three passed", least(8, "aBCDe", "\rx#[1;8Hy"), 6 + 1 + 3 + 1);
        Check.due("with marks, passed", least(8, "aB``C``d", "\rx#[1;6Hy"), 6 + 1 + 4 + 1);
        Check.due("at the last columns", least(4, "", "#[1;3HA"), 7);
        Check.due("erased at the last columns", least(4, "#[1;3HA", "#[1;3H#[K"), 6 + 2);
        Check.due("with an attribute", least(4, "", "#[1mAb"), 6 + 5 + 1);
        Check.due("its tail erased", least(4, "A", "#[1;2H#[X"), 6 + 2);
    }

    private static void dearestRow() {
        StringBuilder text = new StringBuilder();
        for (int i = 0; i < 24; i++) {
            text.append(i % 2 == 0 ? "#[1m" : "#[m").append("a```");
        }
        Check.due("24 cells, each with three marks and another attribute", least(24, "", text.toString()), 6 + 24 * 8);
        Check.due("and all of it erased", least(24, text.toString(), "#[2K"), 9);
    }

    /** Returns the least costs; 0 if it is like. */
    private static void likeRows() {
        InputrowConsole x = new InputrowConsole();
        for (int row = 0; row < 6; row++) {
            Check.due("at first, row " + row, x.least(row), 0);
        }
        Check.write(x, "a\r \r#[X");
        Check.due("empty again", x.least(0), 0);
        Check.write(x, "abc");
        x.draw();
        Check.write(x, "#[2J#[Habc");
        Check.due("the same signs again", x.least(0), 0);
        Check.write(x, "#[1;12Hxy#[2;1H#[X#[1;12H#[X");
        Check.due("a row that goes on is like one that does not", x.goesOn(0) + " " + x.least(0), "true 0");
    }

    /** To draw is to make it like the picture that is shown, row by row, the unlike ones. */
    private static void drawing() {
        InputrowConsole x = Check.with(12, 24, "");
        for (int row = 1; row <= 12; row++) {
            x.code(false, row, 24, 'H');
            x.write('z');
        }
        Check.due("each row", x.draw(), 12 * 7);
        Check.due("none then", x.draw(), 0);
        Check.write(x, "#[1;1Ha");
        Check.due("the first row", x.draw(), 7);
        Check.write(x, "#[12;1Ha");
        Check.due("the last row", x.draw(), 7);
        Check.write(x, "#[?47h");
        Check.due("OTHER", x.draw(), 10 * 7 + 2 * (6 + 3));
        Check.due("OTHER is drawn", x.draw(), 0);
        Check.write(x, "#[?47l");
        Check.due("MAIN again", x.draw(), 10 * 7 + 2 * (6 + 1 + 4 + 1));
        Check.due("the cursor stays", Check.cursor(x), "11,1");
        Check.write(x, "#[2;12HA");
        int least = x.least(1);
        Check.due("asking draws nothing", x.least(1), least);
        Check.due("a wide sign", x.draw(), 7);
    }

    private static void afterSize() {
        InputrowConsole x = Check.with("a");
        x.draw();
        x.size(6, 12);
        Check.due("the same size: all empty", x.least(0), 7);
        x.draw();
        x.size(2, 4);
        Check.due("a smaller one: all empty", x.least(0), 7);
        x.draw();
        x.size(12, 24);
        Check.due("the greatest one: all empty", x.least(0), 7);
        Check.due("the last row", x.least(11), 0);
        Check.due("drawn", x.draw() + x.draw(), 7);
    }

    private static void wrongRows() {
        InputrowConsole x = new InputrowConsole();
        Check.outOfBounds("row -1", () -> x.least(-1));
        Check.outOfBounds("row 6 of 6", () -> x.least(6));
        x.size(2, 4);
        Check.outOfBounds("row 2 of 2", () -> x.least(2));
        Check.due("row 1 of 2", x.least(1), 0);
        x.size(12, 4);
        Check.outOfBounds("row 12 of 12", () -> x.least(12));
        Check.due("row 11 of 12", x.least(11), 0);
    }
}
