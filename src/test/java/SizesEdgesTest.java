import java.util.ArrayList;
import java.util.List;

/** The boundary cases of the document's section "Sizes"; the comments are its sentences. */
public final class SizesEdgesTest {
    private static final String NARROW = "abcdefghijklmnopqrstuvwxyzabcdefghijklmnopqrstuvwxyz";
    private static final String MIXED = "aBcDEFghIjklMNOPqrstUVwxyzAbCdEfGhIjKlMn";

    public static void main(String[] args) {
        for (int rows = 2; rows <= 12; rows++) {
            for (int columns = 4; columns <= 24; columns++) {
                wrapped(rows, columns);
                other(rows, columns);
                otherWithWideSigns(columns);
                regionOfAllRows(rows, columns);
            }
        }
        for (int before = 4; before <= 24; before++) {
            for (int columns = 4; columns <= 24; columns++) {
                tabs(before, columns);
            }
        }
        cursors();
        wrongSizes();
        historyLimit();
        mostCells();
        savedCursor();
        goingRows();
        emptyRows();
        emptyParagraphs();
        blanks();
        lastRowsThatWentOn();
        cellLeftForAWideSign();
        cursorAtACellLeft();
        cursorAtWideSigns();
        cursorBehindAParagraph();
        rowsOfTheScreen();
        lastRows();
        lateInOther();
        slowLine();
        Check.end();
    }

    /** Signs one after the other in rows of a width: as many as there is room for; each row but the last one goes on. */
    private static List<String> laid(String signs, int width) {
        List<String> rows = new ArrayList<>();
        StringBuilder row = new StringBuilder();
        for (char sign : signs.toCharArray()) {
            String cells = sign >= 'A' && sign <= 'Z' ? sign + "<" : "" + sign;
            if (row.length() + cells.length() > width) {
                rows.add(padded(row.toString(), width) + "+");
                row.setLength(0);
            }
            row.append(cells);
        }
        rows.add(padded(row.toString(), width));
        return rows;
    }

    private static String padded(String text, int width) {
        return text + ".".repeat(width - text.length());
    }

    private static int lengthOfLast(String signs, int width) {
        List<String> rows = laid(signs, width);
        return rows.get(rows.size() - 1).replace(".", "").length();
    }

    private static String all(InputrowConsole x) {
        return (Check.past(x) + " " + Check.rows(x)).trim();
    }

    private static String picture(List<String> laid, int rows, int columns) {
        List<String> all = new ArrayList<>(laid);
        while (all.size() < rows) {
            all.add(".".repeat(columns));
        }
        return String.join(" ", all);
    }

    /** Each paragraph is laid into rows of the new width; the screen has the last rows of all this; the others are empty. */
    private static void wrapped(int rows, int columns) {
        int[] lengths = {0, 1, 2, 3, 4, 5, 11, 12, 13, 23, 24, 25, 36, 40};
        for (String signs : new String[] {NARROW, MIXED}) {
            for (int length : lengths) {
                String text = signs.substring(0, length);
                InputrowConsole x = Check.with(text);
                boolean isLate = x.told(2) == 1;
                String name = text + " in " + rows + " of " + columns;
                List<String> laid = laid(text, columns);
                int above = Math.max(laid.size() - rows, 0);
                Check.due(name + ": rows of the history", x.size(rows, columns), above);
                Check.due(name, all(x), picture(laid, rows, columns));
                int last = lengthOfLast(text, columns);
                int column = isLate ? last - 1 : Math.min(last, columns - 1);
                String cursor = (laid.size() - 1 - above) + "," + column + (isLate && column == columns - 1 ? "!" : "");
                Check.due(name + ": the cursor", Check.cursor(x), cursor);
                x.size(6, 12);
                Check.due(name + ", and back", all(x), picture(laid(text, 12), 6, 12));
            }
        }
    }

    /** OTHER is cut at the right and below, or has empty cells more; the cursor stays, as far as the screen goes, not late. */
    private static void other(int rows, int columns) {
        InputrowConsole x = Check.with("#[?47h");
        for (int row = 0; row < 6; row++) {
            x.code(false, row + 1, 1, 'H');
            Check.write(x, "abcdefghijkl");
        }
        Check.due("late in OTHER", Check.cursor(x), "5,11!");
        String name = "OTHER, " + rows + " of " + columns + ": ";
        Check.due(name + "rows of the history", x.size(rows, columns), 0);
        for (int row = 0; row < rows; row++) {
            String cut = row < 6 ? "abcdefghijkl".substring(0, Math.min(columns, 12)) : "";
            Check.due(name + row, Check.row(x, row), padded(cut, columns));
        }
        Check.due(name + "the cursor", Check.cursor(x), Math.min(5, rows - 1) + "," + Math.min(11, columns - 1));
        x.size(6, 12);
        String back = padded("abcdefghijkl".substring(0, Math.min(columns, 12)), 12);
        Check.due(name + "what is gone stays gone", Check.row(x, 0), back);
        Check.due(name + "rows that are gone stay gone", Check.row(x, 5), rows < 6 ? "............" : back);
        Check.write(x, "#[?47l");
        Check.due(name + "MAIN", Check.row(x, 0) + Check.cursor(x), "............0,0");
    }

    private static void otherWithWideSigns(int columns) {
        InputrowConsole even = Check.with("#[?47hABCDEF");
        even.size(6, columns);
        String cut = "A<B<C<D<E<F<".substring(0, Math.min(columns / 2 * 2, 12));
        Check.due("OTHER, wide signs, " + columns, Check.row(even, 0), padded(cut, columns));
        InputrowConsole odd = Check.with("#[?47haBCDEFg");
        odd.size(6, columns);
        cut = "aB<C<D<E<F<g".substring(0, columns >= 12 ? 12 : (columns - 1) / 2 * 2 + 1);
        Check.due("OTHER, wide signs at odd columns, " + columns, Check.row(odd, 0), padded(cut, columns));
    }

    /** The region is all rows. */
    private static void regionOfAllRows(int rows, int columns) {
        InputrowConsole x = Check.with("#[2;3r#[6;12H");
        x.size(rows, columns);
        Check.due("region, " + rows + " of " + columns, x.told(5) + " to " + x.told(6), "0 to " + (rows - 1));
    }

    private static String tabsOf(InputrowConsole x) {
        StringBuilder text = new StringBuilder();
        x.write('\r');
        while (x.told(20) != InputrowConsole.NONE) {
            text.append(x.told(20)).append(' ');
            x.write('\t');
        }
        return text.toString();
    }

    /** Tabs beyond are gone, new ones come at each fourth column. */
    private static void tabs(int before, int columns) {
        InputrowConsole x = new InputrowConsole();
        x.size(6, before);
        x.size(6, columns);
        StringBuilder due = new StringBuilder();
        for (int tab = 4; tab < columns; tab += 4) {
            due.append(tab).append(' ');
        }
        Check.due("tabs of " + columns + " behind " + before, tabsOf(x), due.toString());
        InputrowConsole one = new InputrowConsole();
        one.size(6, before);
        Check.write(one, "#[3g#[1;2H#H#[1;999H#H");
        one.size(6, columns);
        due = new StringBuilder("1 ");
        for (int tab = 3; tab < columns; tab++) {
            if (tab == before - 1 || tab >= before && tab % 4 == 0) {
                due.append(tab).append(' ');
            }
        }
        Check.due("two tabs of " + before + ", then " + columns, tabsOf(one), due.toString());
    }

    /**
     * The cursor stays at its cell; if it is behind the last cell of its paragraph, as many columns behind that as in its
     * old row, in the last row of the paragraph, at most the last column. The screen begins no later than with its row.
     */
    private static void cursors() {
        int[] counts = {0, 1, 11, 12, 13, 24, 30};
        int[] newRows = {2, 3, 6, 12};
        for (int count : counts) {
            for (int row = 0; row < 6; row++) {
                for (int column = 0; column < 12; column++) {
                    for (int rows : newRows) {
                        for (int columns : new int[] {4, 5, 11, 12, 13, 23, 24}) {
                            cursor(count, row, column, rows, columns);
                        }
                    }
                }
            }
        }
    }

    private static void cursor(int count, int row, int column, int rows, int columns) {
        int lastOld = Math.max((count - 1) / 12, 0);
        int laid = Math.max((count + columns - 1) / columns, 1);
        int dueRow;
        int dueColumn;
        int place = row * 12 + column;
        if (place < count) {
            dueRow = place / columns;
            dueColumn = place % columns;
        } else if (row == lastOld) {
            dueRow = laid - 1;
            int oldLast = count == 0 ? -1 : (count - 1) % 12;
            int newLast = count == 0 ? -1 : (count - 1) % columns;
            dueColumn = Math.min(newLast + column - oldLast, columns - 1);
        } else {
            dueRow = laid - 1 + row - lastOld;
            dueColumn = Math.min(column, columns - 1);
        }
        int total = laid + Math.max(row - lastOld, 0);
        int above = Math.min(Math.max(total - rows, 0), dueRow);
        InputrowConsole x = Check.with(NARROW.substring(0, count));
        x.code(false, row + 1, column + 1, 'H');
        String name = count + " signs, cursor " + row + "," + column + ", " + rows + " of " + columns;
        Check.due(name + ": rows of the history", x.size(rows, columns), above);
        Check.due(name, Check.cursor(x), (dueRow - above) + "," + dueColumn);
        InputrowConsole other = Check.with(NARROW.substring(0, count));
        other.code(false, row + 1, column + 1, 'H');
        Check.write(other, "#[?47h#[2;2H");
        Check.due(name + ", OTHER: rows of the history", other.size(rows, columns), above);
        Check.due(name + ", OTHER: the cursor stays", Check.cursor(other), "1,1");
        Check.write(other, "#[?47l");
        Check.due(name + ", the saved one", Check.cursor(other), (dueRow - above) + "," + dueColumn);
    }

    /** rows: 2 to 12; columns: 4 to 24. */
    private static void wrongSizes() {
        InputrowConsole x = Check.with("#[2;3rabc\n#7#[?47hd");
        String before = Check.all(x);
        int[] edges = {-1, 0, 1, 2, 3, 4, 12, 13, 24, 25, 1000};
        for (int rows : edges) {
            for (int columns : edges) {
                if (rows < 2 || rows > 12 || columns < 4 || columns > 24) {
                    Check.badArgument(rows + " of " + columns, () -> x.size(rows, columns));
                }
            }
        }
        Check.due("nothing is changed by these", Check.all(x), before);
        Check.due("the least size", x.size(2, 4), 0);
        Check.due("the greatest size", x.size(12, 24), 0);
    }

    /** Kept in a history of at most 40 rows; when there is one more, the oldest is gone. */
    private static void historyLimit() {
        String signs = NARROW.substring(0, 26).repeat(8);
        int[] counts = {160, 164, 165, 168, 169, 172, 173, 180};
        for (int count : counts) {
            InputrowConsole x = Check.with(2, 24, signs.substring(0, count));
            int rows = (count + 3) / 4;
            int above = Math.min(rows - 2, 40);
            int gone = rows - 2 - above;
            String name = rows + " rows: ";
            Check.due(name + "of the history", x.size(2, 4), above);
            Check.due(name + "the oldest one", x.past(0, 0), (int) signs.charAt(gone * 4));
            Check.due(name + "it goes on", x.goesOn(-above), true);
            Check.due(name + "the screen", Check.row(x, 0), signs.substring((rows - 2) * 4, (rows - 1) * 4) + "+");
            Check.outOfBounds(name + "a row more", () -> x.past(above, 0));
            x.size(12, 24);
            Check.due(name + "back", x.told(9), 0);
            Check.due(name + "back, the first row", Check.row(x, 0), signs.substring(gone * 4, gone * 4 + 24) + "+");
        }
        InputrowConsole rows = Check.with(2, 4, "#[40Sab#[2;1H");
        Check.due("40 empty rows and two rows", rows.size(2, 4), 40);
        Check.due("40 empty rows and three rows", rows.size(3, 4), 39);
        Check.due("40 empty rows, the least rows again", rows.size(2, 4), 40);
    }

    /** 40 rows of the history and 12 of the screen, of 24 full cells each, in one paragraph. */
    private static void mostCells() {
        InputrowConsole x = Check.with(12, 24, "");
        for (int row = 0; row < 52; row++) {
            x.code(false, 999, 24, 'H');
            x.write('a' + row % 26);
            x.write('-');
        }
        // The last sign fed a line: with that row there is one more than there is room for, and the one of the a is gone.
        Check.due("all rows", x.told(9), 40);
        Check.due("the oldest one", x.past(0, 23), (int) 'b');
        Check.write(x, "#[12;24Hz");
        Check.due("narrow", x.size(12, 4), 40);
        Check.due("its last row", Check.row(x, 11), "...z");
        Check.due("the end of the row ahead", Check.row(x, 5), "...z+");
        Check.due("the first cell of the last row", Check.row(x, 6), "-...+");
        Check.due("its cursor", Check.cursor(x), "11,3!");
        // Of the 1248 cells the last 208 stay, from the 9th one of the row of the s on.
        Check.due("the end of the first row that stays in part", x.past(3, 3), (int) 's');
        Check.due("wide: 52 rows of 4 in 9 of 24", x.size(12, 24), 0);
        Check.due("wide: the last row", Check.row(x, 8), padded("...............z", 24));
    }

    /** The saved cursor is as it was, while MAIN is shown. */
    private static void savedCursor() {
        InputrowConsole x = Check.with("#[6;12H#7#[1;1H");
        x.size(2, 4);
        Check.due("the size is another one", x.told(7), 2);
        x.size(6, 12);
        Check.write(x, "#8");
        Check.due("as it was", Check.cursor(x), "5,11");
        InputrowConsole text = Check.with("abcdefghijkl#[1;10H#7#[1;1H");
        text.size(6, 4);
        Check.write(text, "#8");
        Check.due("not at its cell", Check.cursor(text), "0,3");
        InputrowConsole never = Check.with("abcdefghijkl");
        never.size(6, 4);
        Check.write(never, "#8");
        Check.due("never saved", Check.cursor(never), "0,0");
        InputrowConsole late = Check.with("abcdefghijkl#7\r");
        late.size(6, 24);
        late.size(6, 12);
        Check.write(late, "#8");
        Check.due("late as it was", Check.cursor(late), "0,11!");
        InputrowConsole inOther = Check.with("abcdefgh#[?47h#[1;3H#7#[1;1H");
        inOther.size(6, 4);
        inOther.size(6, 4);
        Check.write(inOther, "#[?47l");
        Check.due("saved in OTHER, at its cell of MAIN", Check.cursor(inOther), "0,2");
    }

    private static void sized(String name, InputrowConsole x, int rows, int columns, String due, String cursor) {
        x.size(rows, columns);
        Check.due(name, all(x), due);
        Check.due(name + ": the cursor", Check.cursor(x), cursor);
    }

    /** A paragraph is a row that no row ahead of it goes on into, and those that it goes on into, one after the other. */
    private static void goingRows() {
        sized("two paragraphs", Check.with(4, 4, "abcdef\r\ngh"), 4, 6, "abcdef gh.... ...... ......", "1,2");
        sized("a full row that does not go on", Check.with(4, 4, "abcd\r\nef"), 4, 8, "abcd.... ef...... ........ ........", "1,2");
        sized("three rows of one", Check.with(4, 4, "abcdefghij"), 2, 24, padded("abcdefghij", 24) + " " + ".".repeat(24), "0,10");
        sized("from the history on", Check.with(2, 4, "abcdefghij"), 2, 10, "abcdefghij ..........", "0,9");
        sized("not from the history on", Check.with(2, 4, "abcdefghij#[1;1H#[M#[2;1H"), 2, 8, "abcd.... ij...... ........", "1,0");
        sized("cells erased in a row that goes on", Check.with(3, 4, "abcdef#[1;2H#[3X#[2;2H"), 3, 6,
                "a...ef ...... ......", "0,5");
        sized("a row that goes on with no cell at all", Check.with(3, 4, "abcdef#[1;1H#[4X#[2;2H"), 3, 6,
                "....ef ...... ......", "0,5");
        sized("K ends it", Check.with(3, 4, "abcdef#[1;4H#[K#[2;2H"), 3, 8, "abc..... ef...... ........", "1,1");
        sized("of the last one up to its last cell", Check.with(3, 8, "ab#[1;5Hc#[1;6H"), 3, 4, "ab..+ c... ....", "1,1");
    }

    /** Rows of the screen behind the cursor's that are empty, with nothing but empty ones behind them, are no paragraphs. */
    private static void emptyRows() {
        sized("behind the cursor's", Check.with(4, 4, "ab"), 2, 4, "ab.. ....", "0,2");
        sized("the cursor in the last row", Check.with(4, 4, "ab#[4;1H"), 2, 4, "ab.. .... .... ....", "1,0");
        sized("the cursor in the last row but one", Check.with(4, 4, "ab#[3;1H"), 2, 4, "ab.. .... ....", "1,0");
        sized("ahead of a row", Check.with(4, 4, "#[4;1Hab#[1;1H"), 2, 4, ".... ....", "0,0");
        sized("ahead of a row that has room", Check.with(4, 4, "#[4;1Hab#[1;1H"), 5, 4, ".... .... .... ab.. ....", "0,0");
        sized("an empty row that goes on, behind the cursor's",
                Check.with(4, 4, "abcdefghij#[2;1H#[4X#[3;1H#[4X#[1;1H"), 4, 4, "abcd .... .... ....", "0,0");
        sized("an empty row that goes on, ahead of the cursor's",
                Check.with(4, 4, "abcdefghij#[2;1H#[4X#[3;1H#[4X"), 4, 8, "abcd.... ........ ........ ........", "0,7");
        sized("an empty row of a paragraph, with a row behind it",
                Check.with(4, 4, "abcdefghij#[2;1H#[4X#[1;1H"), 4, 8, "abcd....+ ij...... ........ ........", "0,0");
        sized("all rows empty, the cursor in the first one", Check.with(4, 4, ""), 2, 4, ".... ....", "0,0");
        sized("a tail is not empty", Check.with(4, 4, "a#[2;3HB#[1;1H"), 4, 5, "a.... ..B<. ..... .....", "0,0");
    }

    /** One at least. */
    private static void emptyParagraphs() {
        sized("empty rows stay empty rows", Check.with(5, 4, "a\r\n\r\n\r\nb"), 5, 24,
                String.join(" ", padded("a", 24), padded("", 24), padded("", 24), padded("b", 24), padded("", 24)), "3,1");
        sized("empty rows of the history", Check.with(2, 4, "a\r\n\r\n\r\nb"), 4, 5, "a.... ..... ..... b....", "3,1");
    }

    /** Its last cell that is not empty: a blank is a sign. */
    private static void blanks() {
        sized("blanks at the end", Check.with(3, 8, "ab      \r"), 3, 4, "ab  +" + " ".repeat(6) + "....", "0,0");
        sized("a blank in the last column", Check.with(3, 8, "ab#[1;8H \r"), 3, 4, "ab..+ ...  ....", "0,0");
        sized("a row of blanks behind the cursor's", Check.with(4, 4, "#[3;1H #[1;1H"), 3, 4, ".... ....  ...", "0,0");
    }

    /** But a last one that is empty, if the next row begins with a wide sign. */
    private static void cellLeftForAWideSign() {
        sized("one cell left", Check.with(3, 4, "abcDe"), 3, 8, "abcD<e.. ........ ........", "0,6");
        sized("two empty cells: the last one", Check.with(3, 4, "abcDe#[1;3H#[X#[2;4H"), 3, 8, "ab.D<e.. ........ ........", "0,6");
        sized("a full row ahead of a wide sign", Check.with(3, 4, "abcdEf"), 3, 8, "abcdE<f. ........ ........", "0,7");
        sized("the next row begins with an empty cell", Check.with(3, 4, "abcDe#[2;1H#[2X#[2;4H"), 3, 8,
                "abc...e. ........ ........", "0,7");
        sized("the next row begins with a narrow sign", Check.with(3, 4, "abcDe#[2;1Hf#[2;4H"), 3, 8, "abc.f.e. ........ ........", "0,7");
        sized("a wide sign, but the row does not go on", Check.with(3, 4, "abc\r\nDe"), 3, 8, "abc..... D<e..... ........", "1,3");
        sized("from the history on", Check.with(2, 4, "abcDefGh"), 2, 12, "abcD<efG<h.. ............", "0,10");
        sized("left anew", Check.with(3, 8, "abcDeFGh"), 3, 4, "abc.+ D<e.+ F<G<+ h...", "2,1");
        sized("in each row", Check.with(2, 24, "aBCDE"), 5, 4, "aB<.+ C<D<+ E<.. .... ....", "2,2");
        sized("5 columns, wide signs alone", Check.with(2, 24, "ABCDE"), 3, 5, "A<B<.+ C<D<.+ E<...", "2,2");
    }

    /** The cell that a wide sign had no room for is none of the paragraph: the sign is at its place. */
    private static void cursorAtACellLeft() {
        sized("the same size", Check.with(4, 4, "abcDe#[1;4H"), 4, 4, "abc.+ D<e. .... ....", "1,0");
        sized("wider", Check.with(4, 4, "abcDe#[1;4H"), 4, 6, "abcD<e ...... ...... ......", "0,3");
        sized("a column less", Check.with(3, 8, "abcdefgHi#[1;8H"), 3, 7, "abcdefg+ H<i.... .......", "1,0");
        sized("no cell left in the new row", Check.with(3, 6, "abcdeFg#[1;6H"), 3, 4, "abcd+ eF<g ....", "1,1");
        sized("the row ahead of it is empty but for that", Check.with(3, 4, "abcDe#[1;1H#[4X#[1;4H"), 3, 4, "....+ D<e. ....", "1,0");
        sized("two cells ahead of it", Check.with(3, 4, "abcDe#[1;2H#[3X#[1;3H"), 3, 4, "a...+ D<e. ....", "0,2");
        sized("the sign in the last row", Check.with(2, 4, "abcDe#[1;4H"), 2, 4, "abc.+ D<e.", "1,0");
        sized("the screen begins no later than with the sign", Check.with(4, 4, "abcDefGhijkl#[1;4H"), 2, 4,
                "abc.+ D<ef+ G<hi", "0,0");
    }

    /** A row that goes on in one that is no paragraph is the last of its paragraph: up to its last cell that is not empty. */
    private static void lastRowsThatWentOn() {
        sized("on in an empty row", Check.with(4, 8, "abcdefghij#[2;1H#[2X#[1;4H#[5X#[1;1H"), 4, 4, "abc. .... .... ....", "0,0");
        sized("on in an empty row, the same width", Check.with(4, 8, "abcdefghij#[2;1H#[2X#[1;4H#[5X#[1;1H"), 4, 8,
                "abc..... ........ ........ ........", "0,0");
        sized("on in an empty row that the cursor is in", Check.with(4, 8, "abcdefghij#[2;1H#[2X#[1;4H#[5X#[2;1H"), 4, 4,
                "abc.+ .... .... ....", "1,3");
        sized("the last row of the screen", Check.with(3, 8, "#[1;2r#[3;1Habcdefghi#[3;4H#[5X#[3;1H"), 3, 4,
                ".... .... ibc.", "2,0");
        sized("the last row of the screen, the same width", Check.with(3, 8, "#[1;2r#[3;1Habcdefghi#[3;4H#[5X#[3;1H"), 3, 8,
                "........ ........ ibc.....", "2,0");
    }

    private static void cursorAtWideSigns() {
        sized("at a head", Check.with(3, 8, "abcDe#[1;4H"), 3, 4, "abc.+ D<e. ....", "1,0");
        sized("at a tail", Check.with(3, 8, "abcDe#[1;5H"), 3, 4, "abc.+ D<e. ....", "1,1");
        sized("just behind it", Check.with(3, 8, "abcDe#[1;6H"), 3, 4, "abc.+ D<e. ....", "1,2");
        sized("just ahead of it", Check.with(3, 8, "abcDe#[1;3H"), 3, 4, "abc.+ D<e. ....", "0,2");
        sized("at the tail in the last column", Check.with(3, 8, "abcdefG"), 3, 4, "abcd+ efG< ....", "1,3!");
        sized("late at a tail, not in the last column then", Check.with(3, 8, "abcdefG"), 3, 10, "abcdefG<.. .......... ..........",
                "0,7");
    }

    private static void cursorBehindAParagraph() {
        sized("one behind", Check.with(3, 8, "abcdef"), 3, 4, "abcd+ ef.. ....", "1,2");
        sized("two behind", Check.with(3, 8, "abcdef#[1;8H"), 3, 4, "abcd+ ef.. ....", "1,3");
        sized("one behind a row that is full then", Check.with(3, 8, "abcd"), 3, 4, "abcd .... ....", "0,3");
        sized("far behind", Check.with(3, 24, "a#[1;24H"), 3, 4, "a... .... ....", "0,3");
        sized("far behind, one column less", Check.with(3, 24, "a#[1;23H"), 3, 23, padded("a", 23) + " " + padded("", 23) + " "
                + padded("", 23), "0,22");
        sized("behind, in a wide screen", Check.with(3, 4, "abcdef#[2;4H"), 3, 24,
                padded("abcdef", 24) + " " + padded("", 24) + " " + padded("", 24), "0,7");
        sized("in an empty row", Check.with(3, 12, "#[2;12H"), 3, 4, ".... .... ....", "1,3");
        sized("in an empty row of a paragraph", Check.with(3, 4, "abcde#[2;1H#[X#[2;3H"), 3, 24,
                padded("abcd", 24) + " " + padded("", 24) + " " + padded("", 24), "0,6");
    }

    /** The screen begins no later than with the cursor's row; rows below it are gone; those above are the history. */
    private static void rowsOfTheScreen() {
        String four = "a\r\nb\r\nc\r\nd";
        sized("the last rows", Check.with(4, 4, four), 2, 4, "a... b... c... d...", "1,1");
        sized("the cursor in the last but one", Check.with(4, 4, four + "#[3;1H"), 2, 4, "a... b... c... d...", "0,0");
        sized("the cursor in the last but two", Check.with(4, 4, four + "#[2;1H"), 2, 4, "a... b... c...", "0,0");
        sized("the cursor in the first one", Check.with(4, 4, four + "#[1;1H"), 2, 4, "a... b...", "0,0");
        sized("just room", Check.with(4, 4, four + "#[1;1H"), 4, 4, "a... b... c... d...", "0,0");
        sized("one row more", Check.with(4, 4, four + "#[1;1H"), 5, 4, "a... b... c... d... ....", "0,0");
        sized("rows of the history come back", Check.with(2, 4, four), 3, 4, "a... b... c... d...", "2,1");
        sized("all of them", Check.with(2, 4, four), 4, 4, "a... b... c... d...", "3,1");
        sized("and one row more", Check.with(2, 4, four), 5, 4, "a... b... c... d... ....", "3,1");
    }

    /** The last row of a picture does not go on then. */
    private static void lastRows() {
        sized("MAIN is cut", Check.with(4, 4, "abcdefghij#[1;1H"), 2, 4, "abcd+ efgh", "0,0");
        sized("MAIN goes on in the history", Check.with(4, 4, "abcdefghij#[2;1H"), 2, 4, "abcd+ efgh+ ij..", "0,0");
        InputrowConsole last = Check.with(3, 4, "#[1;2r#[3;1Habcde");
        sized("a last row that went on", last, 3, 4, ".... .... ebcd", "2,1");
        InputrowConsole other = Check.with(4, 4, "#[?47habcdefghijklmno");
        Check.due("OTHER", Check.rows(other), "abcd+ efgh+ ijkl+ mno.");
        other.size(3, 4);
        Check.due("OTHER, cut", Check.rows(other), "abcd+ efgh+ ijkl");
        other.size(4, 4);
        Check.due("OTHER, a row more", Check.rows(other), "abcd+ efgh+ ijkl ....");
        other.size(2, 5);
        Check.due("OTHER, wider", Check.rows(other), "abcd.+ efgh.");
        InputrowConsole otherLast = Check.with(3, 4, "#[?47h#[1;2r#[3;1Habcde");
        otherLast.size(3, 4);
        Check.due("OTHER, a last row that went on", Check.rows(otherLast), ".... .... ebcd");
    }

    /** While OTHER is shown, it is the saved cursor that stays; late if that is in the last column then. */
    private static void lateInOther() {
        int[] columns = {4, 5, 6, 11, 12, 13, 24};
        for (int count : columns) {
            InputrowConsole x = Check.with("abcdefghijkl#[?47h#[1;1H");
            x.size(6, count);
            Check.due("the cursor of OTHER, " + count, Check.cursor(x), "0,0");
            Check.write(x, "#[?47l");
            String due = 11 / count + "," + 11 % count + (11 % count == count - 1 ? "!" : "");
            Check.due("the saved one, late, " + count, Check.cursor(x), due);
        }
        InputrowConsole off = Check.with("abcdefghijkl#[?47h#[?7l");
        off.size(6, 12);
        Check.write(off, "#[?47l");
        Check.due("WRAP off meanwhile", Check.cursor(off), "0,11");
    }

    /** A slow line has a picture, all empty at first and behind each call of size(), also with the same size. */
    private static void slowLine() {
        InputrowConsole x = Check.with("abc");
        Check.due("drawn", x.draw(), 9);
        x.size(6, 12);
        Check.due("the same size", x.least(0), 9);
        Check.due("drawn again", x.draw(), 9);
        Check.badArgument("a wrong size", () -> x.size(1, 12));
        Check.due("is nothing to it", x.draw(), 0);
        Check.write(x, "#[2J");
        x.size(12, 24);
        Check.due("both are empty", x.draw(), 0);
        Check.write(x, "#[12;24Hz");
        Check.due("the last cell", x.draw(), 7);
    }
}
