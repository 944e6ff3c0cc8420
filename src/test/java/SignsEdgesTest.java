/** The boundary cases of "To draw a sign"; the comments are its sentences. */
public final class SignsEdgesTest {
    private static final String FULL = "abcdefghijklmnopqrstuvwx";

    public static void main(String[] args) {
        for (int columns = 4; columns <= 24; columns++) {
            narrowAtTheEnd(columns);
            wideAtTheEnd(columns);
            withoutWrap(columns);
            inserting(columns);
        }
        lateAndWide();
        lastRows();
        wrapOffAndOn();
        insertingWideSigns();
        insertingWhenLate();
        attributeOfWhatIsDrawn();
        cellWithoutRoom();
        Check.end();
    }

    private static String dots(int count) {
        return ".".repeat(count);
    }

    private static InputrowConsole at(int columns, int column, String before) {
        InputrowConsole x = Check.with(2, columns, before);
        x.code(false, 1, column + 1, 'H');
        return x;
    }

    /** If that is beyond the last one, it is the last one, and the cursor is late, if WRAP is on. */
    private static void narrowAtTheEnd(int columns) {
        String name = columns + " columns: ";
        InputrowConsole x = at(columns, columns - 2, "");
        x.write('y');
        Check.due(name + "the last column but one", Check.cursor(x), "0," + (columns - 1));
        x.write('z');
        Check.due(name + "the last column", Check.cursor(x), "0," + (columns - 1) + "!");
        Check.due(name + "the row", Check.row(x, 0), dots(columns - 2) + "yz");
        x.write('`');
        Check.due(name + "a mark leaves it late", Check.cursor(x), "0," + (columns - 1) + "!");
        x.write('a');
        Check.due(name + "the next sign", Check.rows(x), dots(columns - 2) + "yz+ a" + dots(columns - 1));
        Check.due(name + "the cursor then", Check.cursor(x), "1,1");
    }

    /** The row goes on in the next one, a line is fed, and the column is 0 (the cell that it had no room for is empty). */
    private static void wideAtTheEnd(int columns) {
        String name = columns + " columns, wide: ";
        InputrowConsole fits = at(columns, columns - 2, "");
        fits.write('Z');
        Check.due(name + "just room", Check.rows(fits), dots(columns - 2) + "Z< " + dots(columns));
        Check.due(name + "late", Check.cursor(fits), "0," + (columns - 1) + "!");
        InputrowConsole ahead = at(columns, columns - 3, "");
        ahead.write('Z');
        Check.due(name + "one cell left", Check.cursor(ahead), "0," + (columns - 1));
        ahead.write('Y');
        Check.due(name + "no room", Check.rows(ahead), dots(columns - 3) + "Z<.+ Y<" + dots(columns - 2));
        Check.due(name + "the cursor then", Check.cursor(ahead), "1,2");
        String text = FULL.substring(0, columns);
        InputrowConsole over = at(columns, columns - 1, text);
        over.write('Y');
        Check.due(name + "over a sign", Check.row(over, 0), text.substring(0, columns - 1) + ".+");
        InputrowConsole late = Check.with(2, columns, text + "Y");
        Check.due(name + "late: the last cell stays", Check.rows(late), text + "+ Y<" + dots(columns - 2));
    }

    /** Without WRAP, a wide sign at the last column is drawn one column further left. */
    private static void withoutWrap(int columns) {
        String name = columns + " columns, without WRAP: ";
        String text = FULL.substring(0, columns);
        InputrowConsole x = Check.with(2, columns, "#[?7l" + text);
        Check.due(name + "not late", Check.cursor(x), "0," + (columns - 1));
        x.write('z');
        Check.due(name + "the last cell again", Check.rows(x), text.substring(0, columns - 1) + "z " + dots(columns));
        Check.due(name + "the cursor stays", Check.cursor(x), "0," + (columns - 1));
        x.write('Z');
        Check.due(name + "wide", Check.rows(x), text.substring(0, columns - 2) + "Z< " + dots(columns));
        Check.due(name + "wide: the cursor", Check.cursor(x), "0," + (columns - 1));
        x.write('Y');
        Check.due(name + "wide again", Check.row(x, 0), text.substring(0, columns - 2) + "Y<");
        InputrowConsole fits = at(columns, columns - 2, "#[?7l");
        fits.write('Z');
        Check.due(name + "just room", Check.row(fits, 0), dots(columns - 2) + "Z<");
        Check.due(name + "just room: the cursor", Check.cursor(fits), "0," + (columns - 1));
        InputrowConsole parted = at(columns, columns - 3, "#[?7l");
        Check.write(parted, "AB");
        Check.due(name + "over a tail", Check.row(parted, 0), dots(columns - 2) + "B<");
    }

    /** With INSERT the cells from the cursor on are moved to the right by the width; those without room are gone. */
    private static void inserting(int columns) {
        String name = columns + " columns, INSERT: ";
        String text = FULL.substring(0, columns);
        InputrowConsole first = at(columns, 0, text + "#[4h");
        first.write('z');
        Check.due(name + "the first column", Check.rows(first), "z" + text.substring(0, columns - 1) + " " + dots(columns));
        Check.due(name + "the cursor", Check.cursor(first), "0,1");
        InputrowConsole last = at(columns, columns - 1, text + "#[4h");
        last.write('z');
        Check.due(name + "the last column", Check.row(last, 0), text.substring(0, columns - 1) + "z");
        Check.due(name + "the cursor is late", Check.cursor(last), "0," + (columns - 1) + "!");
        InputrowConsole wide = at(columns, 0, text + "#[4h");
        wide.write('Z');
        Check.due(name + "wide", Check.row(wide, 0), "Z<" + text.substring(0, columns - 2));
        InputrowConsole end = at(columns, columns - 2, text + "#[4h");
        end.write('Z');
        Check.due(name + "wide at the end", Check.row(end, 0), text.substring(0, columns - 2) + "Z<");
        InputrowConsole room = at(columns, 0, text.substring(1) + "#[4h");
        room.write('z');
        Check.due(name + "just room", Check.row(room, 0), "z" + text.substring(1));
    }

    private static void lateAndWide() {
        InputrowConsole x = Check.with(3, 5, "abcD");
        Check.due("a wide sign in the last cells", Check.cursor(x), "0,4!");
        Check.write(x, "E");
        Check.due("behind it", Check.rows(x), "abcD<+ E<... .....");
        InputrowConsole y = Check.with(3, 5, "abcdE");
        Check.due("a cell left", Check.rows(y), "abcd.+ E<... .....");
        InputrowConsole even = Check.with(3, 4, "ABCD");
        Check.due("wide signs alone", Check.rows(even), "A<B<+ C<D< ....");
        Check.due("late behind them", Check.cursor(even), "1,3!");
        InputrowConsole odd = Check.with(3, 5, "ABCDE");
        Check.due("wide signs alone, a cell left in each row", Check.rows(odd), "A<B<.+ C<D<.+ E<...");
    }

    /** A line is fed: in the last row of the screen, of the region, and behind the region. */
    private static void lastRows() {
        InputrowConsole x = Check.with(2, 4, "abcdefgh");
        Check.due("late in the last cell", Check.cursor(x), "1,3!");
        Check.due("nothing left yet", x.told(9), 0);
        x.write('i');
        Check.due("the last row", Check.past(x) + " " + Check.rows(x), "abcd+ efgh+ i...");
        InputrowConsole wide = Check.with(2, 4, "abcdefgI");
        Check.due("a wide sign in the last row", Check.past(wide) + " " + Check.rows(wide), "abcd+ efg.+ I<..");
        InputrowConsole region = Check.with(4, 4, "a\r\nb\r\nc\r\nd#[2;3r#[3;1Hefghi");
        Check.due("the last row of the region", Check.rows(region), "a... efgh+ i... d...");
        Check.due("its cursor", Check.cursor(region), "2,1");
        InputrowConsole behind = Check.with(4, 4, "a#[1;3r#[4;1Hefghi");
        Check.due("the last row of the screen, behind the region", Check.row(behind, 3).substring(0, 4), "ifgh");
        Check.due("its cursor stays in the row", Check.cursor(behind), "3,1");
        Check.due("no row left", behind.told(9), 0);
        InputrowConsole ahead = Check.with(4, 4, "#[2;3r#[1;1Habcdefghijkl");
        Check.due("into the region", Check.rows(ahead), "abcd+ efgh+ ijkl ....");
        InputrowConsole other = Check.with(2, 4, "#[?47habcdefghi");
        Check.due("OTHER", Check.rows(other), "efgh+ i...");
    }

    private static void wrapOffAndOn() {
        Check.due("off: not late", Check.cursor(Check.with("abcdefghijkl#[?7l")), "0,11");
        Check.due("off and on: not late", Check.cursor(Check.with("abcdefghijkl#[?7l#[?7h")), "0,11");
        Check.due("off and on, a sign", Check.row(Check.with("abcdefghijkl#[?7l#[?7hm"), 0), "abcdefghijkm");
        Check.due("off and on, two signs", Check.row(Check.with("abcdefghijkl#[?7l#[?7hmn"), 1), "n...........");
        Check.due("on again when it is on", Check.cursor(Check.with("abcdefghijkl#[?7h")), "0,11!");
        Check.due("off ahead of the last column", Check.cursor(Check.with("abcdefghijk#[?7ll")), "0,11");
    }

    private static void insertingWideSigns() {
        Check.due("half of the last sign", Check.row(Check.with(2, 4, "abC#[4h\rx"), 0), "xab.");
        Check.due("all of the last sign", Check.row(Check.with(2, 4, "abC#[4h\rX"), 0), "X<ab");
        Check.due("over a tail", Check.row(Check.with(2, 5, "aBc#[4h#[1;3Hx"), 0), "a.x.c");
        Check.due("wide over a tail", Check.row(Check.with(2, 6, "aBc#[4h#[1;3HX"), 0), "a.X<.c");
        Check.due("without WRAP at the end", Check.row(Check.with(2, 4, "abcd#[4h#[?7l#[1;4HX"), 0), "abX<");
        Check.due("without WRAP over a tail", Check.row(Check.with(2, 4, "aBc#[4h#[?7l#[1;4HX"), 0), "a.X<");
        Check.due("with WRAP at the end", Check.rows(Check.with(2, 4, "abcdef#[4h#[1;4HX")), "abc.+ X<ef");
    }

    private static void insertingWhenLate() {
        InputrowConsole x = Check.with(3, 4, "efgh\r\nij#[1;1Habcd#[4hxY");
        Check.due("in the next row", Check.rows(x), "abcd+ xY<i ....");
        InputrowConsole full = Check.with(3, 4, "#[2;1Hijkl#[1;1Habcd#[4hx");
        Check.due("in a full row", Check.rows(full), "abcd+ xijk ....");
        Check.due("INSERT of a mark moves nothing", Check.row(Check.with(2, 4, "ab#[4h\b`"), 0), "ab..");
        Check.due("4 off", Check.row(Check.with(2, 4, "ab#[4h#[4l\rx"), 0), "xb..");
    }

    /** Then the sign is drawn, with the attribute. */
    private static void attributeOfWhatIsDrawn() {
        InputrowConsole x = Check.with(2, 4, "#[1;2;3;4maB#[mc");
        Check.due("attribute 15", x.cell(0, 0), 15097);
        Check.due("attribute 15 of a wide sign", x.cell(0, 1), 15066);
        Check.due("its tail", x.cell(0, 2), -2);
        Check.due("attribute 0", x.cell(0, 3), 99);
        Check.write(x, "\ra");
        Check.due("drawn anew with the attribute 0", x.cell(0, 0), 97);
        InputrowConsole marked = Check.with(2, 4, "a```\ra");
        Check.due("drawn anew without marks", marked.cell(0, 0), 97);
    }

    /** The cell that a wide sign had no room for is empty then. */
    private static void cellWithoutRoom() {
        Check.due("it had a sign", Check.rows(Check.with(2, 4, "abcd#[1;4HX")), "abc.+ X<..");
        Check.due("it had a tail", Check.rows(Check.with(2, 4, "abC#[1;4HX")), "ab..+ X<..");
        Check.due("it was empty", Check.rows(Check.with(2, 4, "#[1;4HX")), "....+ X<..");
        InputrowConsole x = Check.with(2, 4, "#[2;1Habcd#[2;4HX");
        Check.due("in the last row: rows", Check.rows(x), "abc.+ X<..");
        Check.due("with INSERT", Check.rows(Check.with(2, 4, "abcd#[4h#[1;4HX")), "abc.+ X<..");
    }
}
