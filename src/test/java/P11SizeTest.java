/** Promise 11: size. */
public final class P11SizeTest {
    public static void main(String[] args) {
        wrongSizes();
        sameSize();
        narrower();
        wider();
        wideSigns();
        cursor();
        lateCursor();
        rowsOfTheScreen();
        emptyRows();
        limits();
        savedCursor();
        other();
        tabs();
        region();
        slowLine();
        Check.end();
    }

    private static void wrongSizes() {
        InputrowConsole x = Check.with("ab");
        Check.badArgument("1 row", () -> x.size(1, 12));
        Check.badArgument("13 rows", () -> x.size(13, 12));
        Check.badArgument("3 columns", () -> x.size(6, 3));
        Check.badArgument("25 columns", () -> x.size(6, 25));
        Check.badArgument("none", () -> x.size(0, 0));
        Check.due("rows stay", x.told(7), 6);
        Check.due("columns stay", x.told(8), 12);
        Check.due("2 of 4", x.size(2, 4), 0);
        Check.due("12 of 24", x.size(12, 24), 0);
        Check.due("rows", x.told(7), 12);
        Check.due("columns", x.told(8), 24);
        Check.due("a cell", x.cell(0, 1), 98);
    }

    private static void sameSize() {
        InputrowConsole x = Check.with(3, 4, "abcdefghijklm");
        Check.due("same size", x.size(3, 4), 1);
        Check.due("rows", Check.rows(x), "efgh+ ijkl+ m...");
        Check.due("history", Check.past(x), "abcd+");
        Check.due("cursor", Check.cursor(x), "2,1");
        InputrowConsole y = Check.with(3, 4, "abcd#[1;2r#[3;4Hxyz");
        Check.due("the last row goes on", Check.rows(y), "abcd .... yz.x+");
        y.size(3, 4);
        Check.due("not then", Check.rows(y), "abcd .... yz.x");
        InputrowConsole z = Check.with(3, 4, "abcdefg#[1;1H");
        z.size(3, 4);
        Check.due("all stay", Check.rows(z), "abcd+ efg. ....");
        Check.due("cursor at the first row", Check.cursor(z), "0,0");
    }

    private static void narrower() {
        InputrowConsole x = Check.with(4, 8, "abcdefghij\r\nkl");
        Check.due("rows of the history", x.size(4, 4), 0);
        Check.due("narrower", Check.rows(x), "abcd+ efgh+ ij.. kl..");
        Check.due("cursor", Check.cursor(x), "3,2");
        InputrowConsole y = Check.with(2, 8, "abcdefghij\r\nkl");
        Check.due("one has left", Check.past(y), "abcdefgh+");
        Check.due("rows of the history then", y.size(2, 5), 1);
        Check.due("the history", Check.past(y), "abcde+");
        Check.due("the screen", Check.rows(y), "fghij kl...");
    }

    private static void wider() {
        InputrowConsole x = Check.with(2, 4, "abcdefghijklmnop\r\nq");
        Check.due("history", Check.past(x), "abcd+ efgh+ ijkl+");
        Check.due("wider", x.size(2, 8), 1);
        Check.due("the history then", Check.past(x), "abcdefgh+");
        Check.due("the screen then", Check.rows(x), "ijklmnop q.......");
        Check.due("all of it", x.size(4, 24), 0);
        Check.due("one row", Check.row(x, 0), "abcdefghijklmnop........");
        Check.due("and another one", Check.row(x, 1), "q.......................");
        Check.due("cursor", Check.cursor(x), "1,1");
        InputrowConsole y = Check.with(2, 4, "abcdefghij#[2;2H#[3P#[1;2H#[X#[1;1H");
        Check.due("with gaps", Check.past(y) + " " + Check.rows(y), "abcd+ e.gh+ i...");
        y.size(3, 12);
        Check.due("gaps stay", Check.row(y, 0), "abcde.ghi...");
        Check.due("the cursor stays at its cell", Check.cursor(y), "0,4");
        InputrowConsole z = Check.with(3, 4, "abcde#[1;3H#[2P#[2;1H");
        z.size(3, 8);
        Check.due("empty cells of a row that goes on", Check.row(z, 0), "ab..e...");
        Check.due("cursor behind them", Check.cursor(z), "0,4");
    }

    private static void wideSigns() {
        InputrowConsole x = Check.with(3, 4, "abcDe");
        Check.due("a wide sign without room", Check.rows(x), "abc.+ D<e. ....");
        x.size(3, 6);
        Check.due("with room", Check.rows(x), "abcD<e ...... ......");
        x.size(3, 5);
        Check.due("just with room", Check.rows(x), "abcD<+ e.... .....");
        x.size(3, 4);
        Check.due("without again", Check.rows(x), "abc.+ D<e. ....");
        InputrowConsole two = Check.with(3, 5, "AbCD");
        Check.due("one cell left", Check.rows(two), "A<bC<+ D<... .....");
        two.size(3, 4);
        Check.due("one left, another way", Check.rows(two), "A<b.+ C<D< ....");
        two.size(2, 8);
        Check.due("all in one", Check.rows(two), "A<bC<D<. ........");
        InputrowConsole gap = Check.with(3, 4, "abcdEf#[1;4H#[X");
        Check.due("a cell erased ahead of a wide sign", Check.rows(gap), "abc.+ E<f. ....");
        gap.size(3, 8);
        Check.due("is as if it had no room", Check.rows(gap), "abcE<f.. ........ ........");
        InputrowConsole kept = Check.with(3, 4, "abcdef#[1;4H#[X");
        kept.size(3, 8);
        Check.due("ahead of another sign it is one", Check.rows(kept), "abc.ef.. ........ ........");
    }

    private static void cursor() {
        InputrowConsole x = Check.with(4, 8, "abcdefghij#[1;7H");
        x.size(4, 4);
        Check.due("at its cell", Check.cursor(x), "1,2");
        InputrowConsole behind = Check.with(4, 8, "abcdef#[1;8H");
        behind.size(4, 4);
        Check.due("behind the last cell", Check.cursor(behind), "1,3");
        behind.size(4, 12);
        Check.due("again", Check.cursor(behind), "0,7");
        InputrowConsole far = Check.with(4, 8, "abc#[1;8H");
        far.size(4, 5);
        Check.due("at most the last column", Check.cursor(far), "0,4");
        InputrowConsole empty = Check.with(4, 8, "abc#[3;6H");
        empty.size(4, 4);
        Check.due("in an empty paragraph", Check.cursor(empty), "2,3");
        empty.size(4, 12);
        Check.due("wider again", Check.cursor(empty), "2,3");
        InputrowConsole full = Check.with(4, 8, "abcd#[1;5H");
        full.size(4, 4);
        Check.due("behind a full row", Check.cursor(full), "0,3");
        InputrowConsole tail = Check.with(4, 8, "abcD#[1;5H");
        tail.size(4, 4);
        Check.due("at a tail", Check.cursor(tail), "1,1");
        InputrowConsole left = Check.with(4, 4, "abcDe#[1;4H");
        left.size(4, 4);
        Check.due("at a cell left empty: the sign that had no room", Check.cursor(left), "1,0");
    }

    private static void lateCursor() {
        InputrowConsole x = Check.with(3, 8, "abcdefgh");
        Check.due("late", Check.cursor(x), "0,7!");
        x.size(3, 8);
        Check.due("late at the same size", Check.cursor(x), "0,7!");
        x.size(3, 4);
        Check.due("late in the last column", Check.cursor(x), "1,3!");
        x.size(3, 5);
        Check.due("not late", Check.cursor(x), "1,2");
        x.size(3, 8);
        Check.due("nor then", Check.cursor(x), "0,7");
        InputrowConsole wide = Check.with(3, 8, "abcdefG");
        wide.size(3, 4);
        Check.due("late at a tail", Check.cursor(wide), "1,3!");
    }

    private static void rowsOfTheScreen() {
        InputrowConsole x = Check.with(4, 4, "a\r\nb\r\nc\r\nd");
        Check.due("fewer rows", x.size(2, 4), 2);
        Check.due("the last ones", Check.rows(x), "c... d...");
        Check.due("the others", Check.past(x), "a... b...");
        Check.due("the cursor", Check.cursor(x), "1,1");
        Check.due("more rows", x.size(6, 4), 0);
        Check.due("come back", Check.rows(x), "a... b... c... d... .... ....");
        Check.due("the cursor then", Check.cursor(x), "3,1");
        InputrowConsole up = Check.with(4, 4, "a\r\nb\r\nc\r\nd#[1;1H");
        Check.due("no later than the cursor", up.size(2, 4), 0);
        Check.due("rows below are gone", Check.rows(up), "a... b...");
        up.size(4, 4);
        Check.due("gone", Check.rows(up), "a... b... .... ....");
        InputrowConsole cut = Check.with(4, 4, "abcdefghijkl#[2;1H");
        cut.size(2, 4);
        Check.due("the last row does not go on", Check.rows(cut), "efgh+ ijkl");
        Check.due("the history goes on", Check.past(cut), "abcd+");
        Check.write(cut, "#[1;1H");
        cut.size(4, 4);
        Check.due("all come back", Check.rows(cut), "abcd+ efgh+ ijkl ....");
        InputrowConsole first = Check.with(4, 4, "abcdefghijkl#[1;1H");
        first.size(2, 4);
        Check.due("a paragraph is cut", Check.rows(first), "abcd+ efgh");
    }

    private static void emptyRows() {
        InputrowConsole x = Check.with(4, 4, "a#[3;2H");
        x.size(2, 4);
        Check.due("empty ones ahead of the cursor", Check.past(x) + " " + Check.rows(x), "a... .... ....");
        Check.due("the cursor", Check.cursor(x), "1,1");
        InputrowConsole behind = Check.with(6, 4, "a\r\nb");
        behind.size(2, 4);
        Check.due("empty ones behind the cursor", Check.rows(behind), "a... b...");
        InputrowConsole between = Check.with(4, 4, "a\r\n\r\nb#[1;1H");
        between.size(4, 6);
        Check.due("between", Check.rows(between), "a..... ...... b..... ......");
        InputrowConsole on = Check.with(4, 4, "abcde#[2;1H#[X#[1;1H");
        Check.due("goes on in an empty one", Check.rows(on), "abcd+ .... .... ....");
        on.size(4, 4);
        Check.due("not then", Check.rows(on), "abcd .... .... ....");
        InputrowConsole cursorIn = Check.with(4, 4, "abcde#[2;1H#[X");
        cursorIn.size(4, 4);
        Check.due("the cursor in an empty last row of a paragraph", Check.cursor(cursorIn), "0,3");
        Check.due("the paragraph", Check.rows(cursorIn), "abcd .... .... ....");
        InputrowConsole shorter = Check.with(4, 8, "abcdefghi#[2;1H#[X#[1;3H#[6P");
        shorter.size(4, 4);
        Check.due("up to its last cell that is not empty", Check.rows(shorter), "ab.. .... .... ....");
    }

    private static void limits() {
        InputrowConsole x = Check.with(2, 24, "");
        for (int i = 0; i < 10; i++) {
            Check.write(x, (char) ('a' + i) + "bcdefghijklmnopqrstuvwx\r\n");
        }
        Check.due("rows of 24", x.told(9), 9);
        Check.due("rows of 4", x.size(2, 4), 40);
        Check.due("the oldest one", x.past(0, 0), (int) 'e');
        Check.due("the latest one", x.past(39, 3), (int) 't');
        Check.due("wider again", x.size(2, 24), 6);
        InputrowConsole full = new InputrowConsole();
        full.size(12, 24);
        for (int i = 0; i < 60; i++) {
            full.code(false, 99, 24, 'H');
            full.write('x');
            full.write('y');
        }
        Check.due("52 rows, but for the last one full", full.told(9), 40);
        Check.due("each goes on", full.goesOn(-40), true);
        Check.due("wrapped at 4", full.size(12, 4), 40);
        Check.due("the last of them", Check.rows(full).substring(30), "y...+ ....+ ....+ ....+ ....+ ...x+ y...");
        Check.due("back", full.size(12, 24), 0);
        Check.due("what is left", Check.row(full, 8), "...........xy...........");
    }

    private static void savedCursor() {
        InputrowConsole x = Check.with(3, 8, "abcdefgh#[1;7H#7#[1;1H");
        x.size(3, 4);
        Check.write(x, "#8");
        Check.due("as it was, at the end of the screen", Check.cursor(x), "0,3");
        InputrowConsole y = Check.with(3, 8, "abcdefgh#[1;7H#7#[1;1H");
        y.size(3, 4);
        y.size(3, 8);
        Check.write(y, "#8");
        Check.due("as it was", Check.cursor(y), "0,6");
    }

    private static void other() {
        InputrowConsole x = Check.with(4, 8, "abcdefghij#[?47h#[1;1HABCD#[4;8Hz");
        Check.due("OTHER is cut", x.size(3, 5), 0);
        Check.due("wide signs, too", Check.rows(x), "A<B<. ..... .....");
        Check.due("the cursor stays", Check.cursor(x), "2,4");
        Check.due("not late", x.told(2), 0);
        x.size(4, 6);
        Check.due("empty cells more", Check.rows(x), "A<B<.. ...... ...... ......");
        Check.due("the cursor is where it was", Check.cursor(x), "2,4");
        Check.write(x, "#[?47l");
        Check.due("MAIN is wrapped", Check.rows(x), "abcdef+ ghij.. ...... ......");
        Check.due("its cursor, at the last cell since 5 columns", Check.cursor(x), "1,3");
        InputrowConsole late = Check.with(3, 8, "abcdefgh#[?47h");
        late.size(3, 4);
        Check.due("the cursor is not late", Check.cursor(late), "0,3");
        Check.write(late, "#[?47l");
        Check.due("the saved one is", Check.cursor(late), "1,3!");
        InputrowConsole on = Check.with(3, 4, "#[?47habcdefghi#[2;1H");
        on.size(2, 6);
        Check.due("rows of OTHER go on, but the last one", Check.rows(on), "abcd..+ efgh..");
        InputrowConsole back = Check.with(2, 4, "abcdefghij#[?47h");
        back.size(2, 12);
        Check.write(back, "#[?47l");
        Check.due("the history comes back", Check.rows(back), "abcdefghij.. ............");
    }

    private static void tabs() {
        InputrowConsole x = new InputrowConsole();
        Check.write(x, "#[3g#[1;3H#H#[1;11H#H#[1;1H");
        x.size(6, 10);
        Check.due("one stays", x.told(20), 2);
        Check.write(x, "#[1;3H");
        Check.due("one is gone", x.told(20), InputrowConsole.NONE);
        x.size(6, 20);
        Check.due("a new one", x.told(20), 12);
        Check.write(x, "#[1;13H");
        Check.due("another one", x.told(20), 16);
        Check.write(x, "#[3g#[1;1H");
        x.size(6, 20);
        Check.due("none at the same size", x.told(20), InputrowConsole.NONE);
    }

    private static void region() {
        InputrowConsole x = Check.with("#[2;3r");
        x.size(6, 12);
        Check.due("first", x.told(5), 0);
        Check.due("last", x.told(6), 5);
        x.size(9, 12);
        Check.due("last of 9", x.told(6), 8);
    }

    private static void slowLine() {
        InputrowConsole x = Check.with("abc");
        Check.due("drawn", x.draw(), 9);
        Check.due("like", x.draw(), 0);
        x.size(6, 12);
        Check.due("empty again", x.least(0), 9);
        Check.due("drawn again", x.draw(), 9);
    }
}
