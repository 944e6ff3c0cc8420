import java.util.ArrayList;
import java.util.List;

/** The boundary cases of the document's section "Cells"; the comments are its sentences. */
public final class CellsEdgesTest {
    private static final String SIX = "a\r\nb\r\nc\r\nd\r\ne\r\nf";
    // Six rows of four cells, all but the last one go on; the first one is in the history.
    private static final String GOING = "abcdefghijklmnopqrstuvwx";
    // Six rows of four cells, of which some go on; the first one is in the history.
    private static final String SOME_GOING = "1234abcdefghij\r\nklmnop";

    public static void main(String[] args) {
        sizesOfTheScreen();
        firstSize();
        signsAttributesMarks();
        emptyCells();
        widths();
        overwritten();
        erased();
        movedAway();
        ownRows();
        rowsOfTheHistory();
        feeding();
        feedingBack();
        leavingForTheHistory();
        goingOnUp();
        goingOnDown();
        goingOnAsItDid();
        fullHistoryGoingOn();
        emptyCellsOfTheHistory();
        Check.end();
    }

    /** A screen has 2 to 12 rows of 4 to 24 cells. */
    private static void sizesOfTheScreen() {
        for (int rows = 2; rows <= 12; rows++) {
            for (int columns = 4; columns <= 24; columns++) {
                oneSize(rows, columns);
            }
        }
    }

    private static void oneSize(int rows, int columns) {
        String name = rows + " rows of " + columns + ": ";
        InputrowConsole x = new InputrowConsole();
        Check.due(name + "no history", x.size(rows, columns), 0);
        Check.due(name + "rows", x.told(7), rows);
        Check.due(name + "columns", x.told(8), columns);
        Check.due(name + "the region", x.told(5) * 100 + x.told(6), rows - 1);
        Check.write(x, "a#[1;999Hb#[999;1Hc#[999;999Hd");
        Check.due(name + "first cell", x.cell(0, 0), (int) 'a');
        Check.due(name + "last one of the first row", x.cell(0, columns - 1), (int) 'b');
        Check.due(name + "first one of the last row", x.cell(rows - 1, 0), (int) 'c');
        Check.due(name + "last cell", x.cell(rows - 1, columns - 1), (int) 'd');
        Check.due(name + "the cursor", Check.cursor(x), (rows - 1) + "," + (columns - 1) + "!");
        Check.outOfBounds(name + "a row more", () -> x.cell(rows, 0));
        Check.outOfBounds(name + "a column more", () -> x.cell(0, columns));
        Check.outOfBounds(name + "a row more, anew", () -> x.cellAnew(rows, 0));
        Check.outOfBounds(name + "a column more, anew", () -> x.cellAnew(0, columns));
        Check.outOfBounds(name + "least of a row more", () -> x.least(rows));
        Check.outOfBounds(name + "goesOn of a row more", () -> x.goesOn(rows));
        Check.due(name + "the last cell anew", x.cellAnew(rows - 1, columns - 1), (int) 'd');
        x.write('e');
        Check.due(name + "a row left", x.told(9), 1);
        Check.due(name + "its last cell", x.past(0, columns - 1), (int) 'b');
        Check.outOfBounds(name + "a column more of the history", () -> x.past(0, columns));
        Check.due(name + "behind the last cell", Check.cursor(x), (rows - 1) + ",1");
    }

    /** At first 6 of 12. The cursor is at a row and a column, both at first 0; attribute 0 at first; region at first all. */
    private static void firstSize() {
        InputrowConsole x = new InputrowConsole();
        Check.due("rows at first", x.told(7), 6);
        Check.due("columns at first", x.told(8), 12);
        Check.due("cursor at first", Check.cursor(x), "0,0");
        Check.due("attribute at first", x.told(4), 0);
        Check.due("first row of the region at first", x.told(5), 0);
        Check.due("last row of the region at first", x.told(6), 5);
        Check.due("rows of the history at first", x.told(9), 0);
        Check.due("MAIN at first", x.told(11), 0);
    }

    /** A sign, 32 to 126, with an attribute, 0 to 15, and marks, 0 to 3. */
    private static void signsAttributesMarks() {
        for (int attribute = 0; attribute <= 15; attribute++) {
            for (int sign = 32; sign <= 126; sign++) {
                if (sign != 96) {
                    oneSign(sign, attribute);
                }
            }
        }
    }

    private static void oneSign(int sign, int attribute) {
        InputrowConsole x = new InputrowConsole();
        for (int i = 0; i < 4; i++) {
            if ((attribute >> i & 1) == 1) {
                x.code(false, i + 1, 0, 'm');
            }
        }
        x.write(sign);
        for (int marks = 0; marks <= 4; marks++) {
            int due = sign + 1000 * attribute + 100000 * Math.min(marks, 3);
            Check.due("sign " + sign + ", attribute " + attribute + ", marks " + marks, x.cell(0, 0), due);
            x.write(96);
        }
    }

    /** An empty cell has the attribute 0 and no marks. */
    private static void emptyCells() {
        String sign = "#[1;2;3;4ma```";
        String[] emptying = {"\r#[K", "\r#[2K", "#[1K", "\r#[J", "#[2J", "#[1J", "\r#[X", "\r#[P", "\r#[@", "#[L", "#[M", "#[S",
            "#[T", "#c", "\rA\r#[1;2Hx"};
        for (String codes : emptying) {
            InputrowConsole x = Check.with(sign + codes);
            Check.due("emptied by " + codes, x.cell(0, 0), 0);
            Check.write(x, "#[1;1H#[1;2H`#[1;1H`");
            Check.due("no mark on a cell emptied by " + codes, x.cell(0, 0), 0);
        }
        InputrowConsole x = Check.with("#[4mabcdefghijkl#[1;12HA");
        Check.due("a cell without room for a wide sign", x.cell(0, 11), 0);
    }

    /** The signs A to Z are wide: they have the next cell, too, which is their tail. */
    private static void widths() {
        for (int sign = 32; sign <= 126; sign++) {
            if (sign == 96) {
                continue;
            }
            boolean isWide = sign >= 65 && sign <= 90;
            InputrowConsole x = new InputrowConsole();
            x.write(sign);
            Check.due("width of " + sign, x.told(1), isWide ? 2 : 1);
            Check.due("its cell", x.cell(0, 0), sign);
            Check.due("the next cell of " + sign, x.cell(0, 1), isWide ? -2 : 0);
            Check.due("the one behind " + sign, x.cell(0, 2), 0);
        }
    }

    private static void row(String text, String due) {
        Check.due("row 0 behind " + text, Check.row(Check.with(2, 6, text), 0), due);
    }

    /** When one of both is overwritten without the other one, the other one becomes empty. */
    private static void overwritten() {
        row("A\rx", "x.....");
        row("A#[1;2Hx", ".x....");
        row("#[1;5HA#[1;5Hx", "....x.");
        row("#[1;5HA#[1;6Hx", ".....x");
        row("AB#[1;2HC", ".C<...");
        row("A\rB", "B<....");
        row("aB\rC", "C<....");
        row("ABC#[1;2Hxy", ".xy.C<");
        row("ABC#[1;4HxD", "A<.xD<");
        row("aB#[1;2H`", "aB<...");
        row("aB\rx", "xB<...");
        row("Ab\rxy", "xyb...");
        row("#[1;5HA#[1;6HB", "......+");
        row("#[?7l#[1;5HA#[1;6HB", "....B<");
        row("#[?7l#[1;4HA#[1;6HB", "....B<");
    }

    /** Erased without the other one. */
    private static void erased() {
        String wide = "aBc";
        row(wide + "#[1;3H#[K", "a.....");
        row(wide + "#[1;2H#[K", "a.....");
        row(wide + "#[1;4H#[K", "aB<...");
        row(wide + "#[1;1H#[1K", ".B<c..");
        row(wide + "#[1;2H#[1K", "...c..");
        row(wide + "#[1;3H#[1K", "...c..");
        row(wide + "#[1;3H#[J", "a.....");
        row(wide + "#[1;2H#[1J", "...c..");
        row(wide + "#[1;1H#[X", ".B<c..");
        row(wide + "#[1;1H#[2X", "...c..");
        row(wide + "#[1;2H#[X", "a..c..");
        row(wide + "#[1;2H#[2X", "a..c..");
        row(wide + "#[1;3H#[X", "a..c..");
        row(wide + "#[1;4H#[X", "aB<...");
        row("#[1;5HA#[1;6H#[K", "......");
        row("#[1;5HA#[1;6H#[X", "......");
        row("A#[1;1H#[1K", "......");
        row("AB#[1;2H#[2X", "......");
    }

    /** Moved away without the other one. */
    private static void movedAway() {
        row("aBc#[1;2H#[@", "a.B<c.");
        row("aBc#[1;3H#[@", "a...c.");
        row("aBc#[1;4H#[@", "aB<.c.");
        row("abcE\r#[@", ".abcE<");
        row("abcE\r#[2@", "..abc.");
        row("abcE\r#[3@", "...abc");
        row("abcdE\r#[@", ".abcd.");
        row("abcdE\r#[2@", "..abcd");
        row("abcdE#[1;5H#[@", "abcd..");
        row("abcdE#[1;6H#[@", "abcd..");
        row("abcdE#[1;5H#[2@", "abcd..");
        row("aBc#[1;2H#[P", "a.c...");
        row("aBc#[1;3H#[P", "a.c...");
        row("aBc#[1;2H#[2P", "ac....");
        row("aBc#[1;1H#[P", "B<c...");
        row("aBc#[1;1H#[2P", ".c....");
        row("aBc#[1;1H#[3P", "c.....");
        row("abcdE#[1;6H#[P", "abcd..");
        row("abcdE#[1;5H#[P", "abcd..");
        row("#[4haBc#[1;3Hx", "a.x.c.");
        row("#[4haBc#[1;2Hx", "axB<c.");
        row("#[4habcdE\rx", "xabcd.");
        row("#[4habcdE\rY", "Y<abcd");
        row("#[4habcE\rY", "Y<abc.");
        InputrowConsole x = Check.with(2, 6, "#[?47habCD");
        x.size(2, 5);
        Check.due("OTHER is cut in a wide sign", Check.row(x, 0), "abC<.");
        x.size(2, 4);
        Check.due("OTHER is cut behind a wide sign", Check.row(x, 0), "abC<");
    }

    /** There are two pictures, each with its own rows; when a picture is changed, this is the one that is shown. */
    private static void ownRows() {
        InputrowConsole x = Check.with(2, 4, "abcde#[?47h");
        Check.due("OTHER", Check.rows(x), ".... ....");
        Check.write(x, "fghi#[2J#[Hjk#[2;1Hlmnopqr");
        Check.due("OTHER is changed", Check.rows(x), "lmno+ pqr.");
        Check.due("it has no history", x.told(9), 0);
        Check.write(x, "#[?47l");
        Check.due("MAIN is not", Check.rows(x), "abcd+ e...");
    }

    /** A history of at most 40 rows; when there is one more, the oldest is gone. */
    private static void rowsOfTheHistory() {
        InputrowConsole x = Check.with(2, 4, "0\r\n1");
        for (int left = 0; left <= 45; left++) {
            String name = left + " rows left: ";
            int count = Math.min(left, 40);
            Check.due(name + "rows of the history", x.told(9), count);
            if (count > 0) {
                Check.due(name + "the oldest one", x.past(0, 0), '0' + left - count);
                Check.due(name + "the latest one", x.past(count - 1, 0), '0' + left - 1);
                Check.due(name + "goesOn of the oldest one", x.goesOn(-count), false);
            }
            Check.outOfBounds(name + "past a row more", () -> x.past(count, 0));
            Check.outOfBounds(name + "goesOn of a row more", () -> x.goesOn(-count - 1));
            Check.write(x, "\r\n" + (char) ('2' + left));
        }
    }

    private static InputrowConsole inRegion(String picture, int row, String then) {
        return Check.with(6, 4, picture + SIX + "#[2;4r#[" + row + ";3H" + then);
    }

    private static String firsts(InputrowConsole x) {
        StringBuilder text = new StringBuilder();
        for (int row = 0; row < x.told(7); row++) {
            text.append(x.cell(row, 0) == 0 ? '.' : (char) x.cell(row, 0));
        }
        return text.toString();
    }

    /** At the last row of the region, the region scrolls up; otherwise the cursor is a row further down, if there is one. */
    private static void feeding() {
        String[] cursors = {"1", "2", "3", "3", "5", "5"};
        for (int row = 1; row <= 6; row++) {
            for (String picture : new String[] {"", "#[?47h"}) {
                String name = picture + " from the row " + (row - 1);
                String rows = row == 4 ? "acd.ef" : "abcdef";
                Check.due("10" + name, Check.cursor(inRegion(picture, row, "\n")), cursors[row - 1] + ",2");
                Check.due("10" + name + ": rows", firsts(inRegion(picture, row, "\n")), rows);
                Check.due("D" + name, Check.cursor(inRegion(picture, row, "#D")), cursors[row - 1] + ",2");
                Check.due("D" + name + ": rows", firsts(inRegion(picture, row, "#D")), rows);
                Check.due("E" + name, Check.cursor(inRegion(picture, row, "#E")), cursors[row - 1] + ",0");
                Check.due("E" + name + ": rows", firsts(inRegion(picture, row, "#E")), rows);
                Check.due("no history" + name, inRegion(picture, row, "\n").told(9), 0);
            }
        }
        Check.due("all rows", firsts(Check.with(6, 4, SIX + "\n")), "bcdef.");
        Check.due("all rows, the cursor", Check.cursor(Check.with(6, 4, SIX + "\n")), "5,1");
        Check.due("all rows, the row ahead of the last one", firsts(Check.with(6, 4, SIX + "#[5;1H\n")), "abcdef");
    }

    /** M: at the first row of the region that scrolls down, otherwise the cursor is a row further up, if there is one. */
    private static void feedingBack() {
        String[] cursors = {"0", "1", "1", "2", "3", "4"};
        for (int row = 1; row <= 6; row++) {
            String name = "M from the row " + (row - 1);
            Check.due(name, Check.cursor(inRegion("", row, "#M")), cursors[row - 1] + ",2");
            Check.due(name + ": rows", firsts(inRegion("", row, "#M")), row == 2 ? "a.bcef" : "abcdef");
        }
        Check.due("M, all rows", firsts(Check.with(6, 4, SIX + "#[1;1H#M")), ".abcde");
        Check.due("M, all rows, from the second one", firsts(Check.with(6, 4, SIX + "#[2;1H#M")), "abcdef");
    }

    /** If the first row of the region is the row 0, and MAIN is shown, the row that leaves goes to the history. */
    private static void leavingForTheHistory() {
        String[] scrolling = {"\n", "#D", "#E", "#[S"};
        for (String code : scrolling) {
            Check.due("from the row 0 by " + code, Check.past(Check.with(6, 4, SIX + "#[1;2r#[2;1H" + code)), "a...");
            Check.due("from the row 1 by " + code, Check.past(Check.with(6, 4, SIX + "#[2;3r#[3;1H" + code)), "");
            Check.due("all rows by " + code, Check.past(Check.with(6, 4, SIX + code)), "a...");
            Check.due("OTHER by " + code, Check.past(Check.with(6, 4, "#[?47h" + SIX + code)), "");
        }
        Check.due("by a sign", Check.past(Check.with(2, 4, "abcdefghi")), "abcd+");
        Check.due("by M of a code", Check.past(Check.with(6, 4, SIX + "#[1;1H#[M")), "");
        Check.due("by scrolling down", Check.past(Check.with(6, 4, SIX + "#[T")), "");
    }

    private static void going(String then, String past, String rows) {
        InputrowConsole x = Check.with(5, 4, GOING + then);
        Check.due("the history behind " + then, Check.past(x), past);
        Check.due("rows behind " + then, Check.rows(x), rows);
    }

    /**
     * A row that moves goes on as it did (perhaps in the row that is empty by that); a row that is empty by that does
     * not go on; unless a row went to the history, nor does the row above the first one (of MAIN above the row 0 the
     * last one of the history).
     */
    private static void goingOnUp() {
        going("", "abcd+", "efgh+ ijkl+ mnop+ qrst+ uvwx");
        going("#[S", "abcd+ efgh+", "ijkl+ mnop+ qrst+ uvwx ....");
        going("y", "abcd+ efgh+", "ijkl+ mnop+ qrst+ uvwx+ y...");
        going("#[1;3r#[S", "abcd+ efgh+", "ijkl+ mnop+ .... qrst+ uvwx");
        going("#[2;4r#[S", "abcd+", "efgh mnop+ qrst+ .... uvwx");
        going("#[2;3r#[S", "abcd+", "efgh mnop+ .... qrst+ uvwx");
        going("#[4;5r#[S", "abcd+", "efgh+ ijkl+ mnop uvwx ....");
        going("#[2;4r#[4;1H\n", "abcd+", "efgh mnop+ qrst+ .... uvwx");
        going("#[2;4r#[4;4Hxy", "abcd+", "efgh mnop+ qrsx+ y... uvwx");
        going("#[1;1H#[M", "abcd", "ijkl+ mnop+ qrst+ uvwx ....");
        going("#[2;1H#[M", "abcd+", "efgh mnop+ qrst+ uvwx ....");
        going("#[5;1H#[M", "abcd+", "efgh+ ijkl+ mnop+ qrst ....");
        going("#[2;4r#[4;1H#[M", "abcd+", "efgh+ ijkl+ mnop .... uvwx");
        going("#[1;2r#[2;1H#[M", "abcd+", "efgh .... mnop+ qrst+ uvwx");
        InputrowConsole other = Check.with(5, 4, GOING + "#[?47h" + "#[H#[M#[S");
        Check.due("OTHER has no row above the row 0", other.goesOn(-1), true);
    }

    /** Nor does the last one of the region. */
    private static void goingOnDown() {
        going("#[T", "abcd", ".... efgh+ ijkl+ mnop+ qrst");
        going("#[1;1H#M", "abcd", ".... efgh+ ijkl+ mnop+ qrst");
        going("#[1;3r#[T", "abcd", ".... efgh+ ijkl qrst+ uvwx");
        going("#[2;4r#[T", "abcd+", "efgh .... ijkl+ mnop uvwx");
        going("#[2;4r#[2;1H#M", "abcd+", "efgh .... ijkl+ mnop uvwx");
        going("#[4;5r#[T", "abcd+", "efgh+ ijkl+ mnop .... qrst");
        going("#[1;1H#[L", "abcd", ".... efgh+ ijkl+ mnop+ qrst");
        going("#[2;1H#[L", "abcd+", "efgh .... ijkl+ mnop+ qrst");
        going("#[5;1H#[L", "abcd+", "efgh+ ijkl+ mnop+ qrst ....");
        going("#[2;4r#[4;1H#[L", "abcd+", "efgh+ ijkl+ mnop .... uvwx");
        InputrowConsole other = Check.with(5, 4, GOING + "#[?47h" + "#[H#M#[T#[L");
        Check.due("OTHER does not end the history", other.goesOn(-1), true);
    }

    private static void goingOfSome(String then, String past, String rows) {
        InputrowConsole x = Check.with(5, 4, SOME_GOING + then);
        Check.due("some go on, the history behind " + then, Check.past(x), past);
        Check.due("some go on, rows behind " + then, Check.rows(x), rows);
    }

    /** A row that moves goes on as it did. */
    private static void goingOnAsItDid() {
        goingOfSome("", "1234+", "abcd+ efgh+ ij.. klmn+ op..");
        goingOfSome("#[S", "1234+ abcd+", "efgh+ ij.. klmn+ op.. ....");
        goingOfSome("#[3S", "1234+ abcd+ efgh+ ij..", "klmn+ op.. .... .... ....");
        goingOfSome("#[1;3r#[S", "1234+ abcd+", "efgh+ ij.. .... klmn+ op..");
        goingOfSome("#[1;2r#[3S", "1234+ abcd+ efgh+ ....", ".... .... ij.. klmn+ op..");
        goingOfSome("#[2;4r#[S", "1234+", "abcd ij.. klmn+ .... op..");
        goingOfSome("#[2;5r#[2S", "1234+", "abcd klmn+ op.. .... ....");
        goingOfSome("#[2;1H#[M", "1234+", "abcd ij.. klmn+ op.. ....");
        goingOfSome("#[3;1H#[M", "1234+", "abcd+ efgh klmn+ op.. ....");
        goingOfSome("#[T", "1234", ".... abcd+ efgh+ ij.. klmn");
        goingOfSome("#[2T", "1234", ".... .... abcd+ efgh+ ij..");
        goingOfSome("#[1;1H#M", "1234", ".... abcd+ efgh+ ij.. klmn");
        goingOfSome("#[1;4r#[T", "1234", ".... abcd+ efgh+ ij.. op..");
        goingOfSome("#[2;5r#[T", "1234+", "abcd .... efgh+ ij.. klmn");
        goingOfSome("#[2;5r#[2;1H#M", "1234+", "abcd .... efgh+ ij.. klmn");
        goingOfSome("#[2;5r#[2T", "1234+", "abcd .... .... efgh+ ij..");
        goingOfSome("#[2;1H#[L", "1234+", "abcd .... efgh+ ij.. klmn");
        goingOfSome("#[1;1H#[2L", "1234", ".... .... abcd+ efgh+ ij..");
        goingOfSome("#[3;1H#[L", "1234+", "abcd+ efgh .... ij.. klmn");
        InputrowConsole other = Check.with(5, 4, "#[?47habcdefghij\r\nklmnop#[T");
        Check.due("OTHER down", Check.rows(other), ".... abcd+ efgh+ ij.. klmn");
        Check.write(other, "#[2S");
        Check.due("OTHER up", Check.rows(other), "efgh+ ij.. klmn .... ....");
    }

    /** When there is one more, the oldest is gone: the others stay, each with its cells and its going on. */
    private static void fullHistoryGoingOn() {
        InputrowConsole x = Check.with(2, 4, "");
        List<String> left = new ArrayList<>();
        for (int line = 0; line < 40; line++) {
            String signs = "abcdefghi".substring(0, line * 7 % 9 + 1);
            for (int from = 0; from < signs.length(); from += 4) {
                String row = signs.substring(from, Math.min(from + 4, signs.length()));
                left.add(row + "....".substring(row.length()) + (from + 4 < signs.length() ? "+" : ""));
            }
            Check.write(x, signs + "\r\n");
            // The last line's last row is still on the screen, above the cursor's one.
            List<String> past = left.subList(Math.max(left.size() - 41, 0), left.size() - 1);
            Check.due("line " + line, Check.past(x), String.join(" ", past));
            Check.due("line " + line + ", the row above the cursor's", Check.row(x, 0), left.get(left.size() - 1));
        }
        Check.due("it is full", x.told(9), 40);
    }

    /** A row of the history has but the cells that it had when it left. */
    private static void emptyCellsOfTheHistory() {
        InputrowConsole again = Check.with(2, 4, "abcd\r\nefgh\r\nijkl\r\nm#[3J");
        Check.due("erased", Check.past(again), "");
        Check.write(again, "\r\no\r\np\r\nq");
        Check.due("filled anew", Check.past(again), "ijkl m... o...");
        InputrowConsole full = Check.with(2, 4, "abcd\r\ne");
        for (int i = 0; i < 42; i++) {
            Check.write(full, i % 2 == 0 ? "\r\nfghi" : "\r\nj");
        }
        Check.due("full: the latest one", full.past(39, 0) * 1000 + full.past(39, 3), (int) 'j' * 1000);
        Check.due("full: the one ahead", full.past(38, 0) * 1000 + full.past(38, 3), 'f' * 1000 + 'i');
        InputrowConsole wider = Check.with(2, 12, "abcdefghijklmnopqr\r\nz\r\ny\r\nx");
        Check.due("narrow", Check.past(wider), "abcdefghijkl+ mnopqr...... z...........");
        wider.size(2, 24);
        Check.due("a shorter row in its place", Check.past(wider), "abcdefghijklmnopqr...... z.......................");
    }
}
