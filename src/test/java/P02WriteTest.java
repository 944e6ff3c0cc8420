/** Promise 2: write, and what the bytes mean in each state of reading. */
public final class P02WriteTest {
    public static void main(String[] args) {
        wrongBytes();
        signs();
        wideSigns();
        marks();
        controls();
        tabs();
        feeds();
        goingOn();
        states();
        escapes();
        savedCursor();
        titles();
        resets();
        held();
        Check.end();
    }

    private static void wrongBytes() {
        InputrowConsole x = new InputrowConsole();
        Check.badArgument("write(-1)", () -> x.write(-1));
        Check.badArgument("write(128)", () -> x.write(128));
        Check.badArgument("write(least int)", () -> x.write(Integer.MIN_VALUE));
        Check.due("write(0)", x.write(0), 0);
        Check.due("write(127)", x.write(127), 0);
        Check.due("nothing drawn", Check.row(x, 0), "............");
        Check.due("cursor", Check.cursor(x), "0,0");
    }

    private static void signs() {
        InputrowConsole x = Check.with(" ~a");
        Check.due("blank", x.cell(0, 0), 32);
        Check.due("tilde", x.cell(0, 1), 126);
        Check.due("a", x.cell(0, 2), 97);
        Check.due("cursor", Check.cursor(x), "0,3");
        Check.write(x, "bcdefghij");
        Check.due("late", Check.cursor(x), "0,11!");
        Check.due("not yet on", x.goesOn(0), false);
        x.write('k');
        Check.due("wrapped", Check.cursor(x), "1,1");
        Check.due("goes on", x.goesOn(0), true);
        Check.write(x, "#[?7l#[Habcdefghijklmn");
        Check.due("without WRAP", Check.row(x, 0), "abcdefghijkn+");
        Check.due("without WRAP the cursor", Check.cursor(x), "0,11");
    }

    private static void wideSigns() {
        InputrowConsole x = Check.with(2, 4, "AbA");
        Check.due("wide sign without room", Check.rows(x), "A<b.+ A<..");
        Check.due("cursor", Check.cursor(x), "1,2");
        x.write('B');
        Check.due("late behind a wide sign", Check.cursor(x), "1,3!");
        x.write('C');
        Check.due("wide sign when late", Check.rows(x), "A<B<+ C<..");
        Check.due("history", Check.past(x), "A<b.+");
        Check.due("emptied last cell", Check.rows(Check.with(2, 4, "abcd#[1;4HA")), "abc.+ A<..");
        Check.due("emptied wide sign", Check.rows(Check.with(2, 4, "abC#[1;4HA")), "ab..+ A<..");
        Check.due("overwritten head", Check.row(Check.with("A#[1;1Hx"), 0), "x...........");
        Check.due("overwritten tail", Check.row(Check.with("A#[1;2Hx"), 0), ".x..........");
        Check.due("two halves", Check.row(Check.with("AB#[1;2HC"), 0), ".C<.........");
        Check.due("without WRAP", Check.row(Check.with("#[?7l#[1;12HA"), 0), "..........A<");
        Check.due("without WRAP over one", Check.row(Check.with("#[?7l#[1;10HBxA"), 0), "..........A<");
        Check.due("without WRAP the cursor", Check.cursor(Check.with("#[?7l#[1;12HA")), "0,11");
        Check.due("with attribute", Check.with("#[2mA").cell(0, 0), 2065);
        Check.due("tail with attribute", Check.with("#[2mA").cell(0, 1), -2);
        InputrowConsole z = Check.with("Z[@");
        Check.due("Z is wide, [ and @ are not", Check.row(z, 0), "Z<[@........");
    }

    private static void marks() {
        InputrowConsole x = Check.with("`a`b`````");
        Check.due("one mark", x.cell(0, 0), 100097);
        Check.due("three marks at most", x.cell(0, 1), 300098);
        Check.due("marks do not move", Check.cursor(x), "0,2");
        Check.due("mark of a wide sign", Check.with("A`").cell(0, 0), 100065);
        Check.due("mark on a tail ahead", Check.with("A#[1;3H`").cell(0, 0), 100065);
        Check.due("mark on a head ahead", Check.with("A#[1;2H`").cell(0, 0), 100065);
        Check.due("nothing without a sign", Check.with("a#[1;4H`").cell(0, 2), 0);
        Check.due("nothing at the first column", Check.with("a\r`").cell(0, 0), 97);
        InputrowConsole late = Check.with("abcdefghijkl`");
        Check.due("late mark", late.cell(0, 11), 100108);
        Check.due("late mark, the one ahead", late.cell(0, 10), 107);
        Check.due("still late", Check.cursor(late), "0,11!");
        Check.due("late mark on a tail", Check.with("abcdefghijA`").cell(0, 10), 100065);
        Check.due("mark on a blank", Check.with(" `").cell(0, 0), 100032);
        InputrowConsole y = Check.with("#[1ma`#[2m`");
        Check.due("attribute stays", y.cell(0, 0), 201097);
        Check.due("overwritten", Check.with("a`\rb").cell(0, 0), 98);
    }

    private static void controls() {
        InputrowConsole x = Check.with("\u0007\u0007");
        Check.due("rings", x.told(10), 2);
        Check.due("back", Check.cursor(Check.with("ab\b")), "0,1");
        Check.due("back at the first column", Check.cursor(Check.with("\b")), "0,0");
        Check.due("back from late", Check.cursor(Check.with("abcdefghijkl\b")), "0,10");
        Check.due("return", Check.cursor(Check.with("abc\r")), "0,0");
        Check.due("feed", Check.cursor(Check.with("abc\n")), "1,3");
        Check.due("feed from late", Check.cursor(Check.with("abcdefghijkl\n")), "1,11");
        Check.due("ring from late", Check.cursor(Check.with("abcdefghijkl\u0007")), "0,11!");
        Check.due("others", Check.cursor(Check.with("ab\u0001\u000b\u000c\u000e\u001f\u007f")), "0,2");
    }

    private static void tabs() {
        Check.due("tab", Check.cursor(Check.with("\t")), "0,4");
        Check.due("tab from a tab", Check.cursor(Check.with("\t\t")), "0,8");
        Check.due("the last column", Check.cursor(Check.with("\t\t\t")), "0,11");
        Check.due("from late", Check.cursor(Check.with("abcdefghijkl\t")), "0,11");
        Check.due("set", Check.cursor(Check.with("ab#H\r\t")), "0,2");
        Check.due("gone", Check.cursor(Check.with("\t#[g\r\t")), "0,8");
        Check.due("all gone", Check.cursor(Check.with("#[3g\t")), "0,11");
        Check.due("other number", Check.cursor(Check.with("\t#[1g\r\t")), "0,4");
    }

    private static void feeds() {
        InputrowConsole x = Check.with(2, 4, "a\r\nb\r\nc");
        Check.due("scrolled", Check.rows(x), "b... c...");
        Check.due("history", Check.past(x), "a...");
        Check.write(x, "#[?47hd\r\ne\r\nf\r\ng");
        Check.due("OTHER scrolled", Check.rows(x), "f... g...");
        Check.due("no history of OTHER", Check.past(x), "a...");
        InputrowConsole y = Check.with(4, 4, "a\r\nb\r\nc\r\nd#[2;3r#[3;1H\n");
        Check.due("region", Check.rows(y), "a... c... .... d...");
        Check.due("no history below", y.told(9), 0);
        Check.write(y, "#[4;2H\n");
        Check.due("below the region", Check.cursor(y), "3,1");
        Check.write(y, "#[1;2H\n");
        Check.due("above the region", Check.cursor(y), "1,1");
        InputrowConsole z = Check.with(4, 4, "a\r\nb\r\nc\r\nd#[1;2r#[2;1H\n");
        Check.due("region from the row 0", Check.rows(z), "b... .... c... d...");
        Check.due("its history", Check.past(z), "a...");
        InputrowConsole many = Check.with(2, 4, "");
        for (int i = 0; i < 45; i++) {
            Check.write(many, (char) ('!' + i) + "\r\n");
        }
        Check.due("40 rows", many.told(9), 40);
        Check.due("the oldest one", many.past(0, 0), '!' + 4);
        Check.due("the latest one", many.past(39, 0), '!' + 43);
    }

    private static void goingOn() {
        InputrowConsole x = Check.with(3, 4, "abcdefghij");
        Check.due("rows", Check.rows(x), "abcd+ efgh+ ij..");
        Check.write(x, "klm");
        Check.due("a row that moves goes on", Check.rows(x), "efgh+ ijkl+ m...");
        Check.due("the history goes on", Check.past(x), "abcd+");
        Check.write(x, "#[1;1H#M");
        Check.due("scrolled down", Check.rows(x), ".... efgh+ ijkl");
        Check.due("the history ends", Check.past(x), "abcd");
        InputrowConsole y = Check.with(4, 4, "abcdefghijklmn#[2;3r#[3;1H\n");
        Check.due("the row above ends", Check.rows(y), "abcd ijkl+ .... mn..");
        InputrowConsole z = Check.with(4, 4, "abcdefghijklmn#[2;3r#[2;1H#M");
        Check.due("down: the row above and the last one end", Check.rows(z), "abcd .... efgh mn..");
        InputrowConsole last = Check.with(3, 4, "a#[1;2r#[3;1Hbcdef");
        Check.due("a last row below the region", Check.rows(last), "a... .... fcde+");
        Check.due("stays in its row", Check.cursor(last), "2,1");
    }

    private static void states() {
        InputrowConsole x = new InputrowConsole();
        Check.due("GROUND", x.told(3), InputrowConsole.GROUND);
        x.write(27);
        Check.due("ESCAPE", x.told(3), InputrowConsole.ESCAPE);
        x.write('[');
        Check.due("CODE", x.told(3), InputrowConsole.CODE);
        Check.write(x, "1;\n");
        Check.due("a control does not end a code", x.told(3), InputrowConsole.CODE);
        Check.due("a control in a code", Check.cursor(x), "1,0");
        x.write(24);
        Check.due("24 ends a code", x.told(3), InputrowConsole.GROUND);
        Check.write(x, "#]");
        Check.due("TITLE", x.told(3), InputrowConsole.TITLE);
        x.write(10);
        Check.due("no feed in a title", Check.cursor(x), "1,0");
        x.write(27);
        Check.due("ESCAPE from TITLE", x.told(3), InputrowConsole.ESCAPE);
        x.write(27);
        Check.due("ESCAPE again", x.told(3), InputrowConsole.ESCAPE);
        x.write(24);
        Check.due("24 ends ESCAPE", x.told(3), InputrowConsole.GROUND);
        Check.write(x, "#q");
        Check.due("another byte ends ESCAPE", x.told(3), InputrowConsole.GROUND);
        Check.due("and is not drawn", Check.row(x, 1), "............");
        Check.due("96 ends ESCAPE", Check.with("a#`").cell(0, 0), 97);
        Check.due("127 does not end ESCAPE", Check.with("#\u007f").told(3), InputrowConsole.ESCAPE);
        Check.due("ESC in a code", Check.cursor(Check.with("#[3#[2B")), "2,0");
    }

    private static void escapes() {
        Check.due("D", Check.cursor(Check.with("ab#D")), "1,2");
        Check.due("E", Check.cursor(Check.with("ab#E")), "1,0");
        Check.due("M", Check.cursor(Check.with("a\nb#M")), "0,2");
        Check.due("D from late", Check.cursor(Check.with("abcdefghijkl#D")), "1,11");
        Check.due("M from late", Check.cursor(Check.with("\nabcdefghijkl#M")), "0,11");
        Check.due("H from late", Check.cursor(Check.with("abcdefghijkl#H")), "0,11!");
        InputrowConsole x = Check.with("a#[2;4r#[2;1H#M");
        Check.due("M at the region's first row", Check.cursor(x), "1,0");
        Check.write(x, "#[1;1H#M");
        Check.due("M at the row 0 above the region", Check.cursor(x), "0,0");
        Check.due("nothing moved by that", Check.row(x, 0), "a...........");
    }

    private static void savedCursor() {
        InputrowConsole x = Check.with("#[2;4m#[3;5H#7#[0m#[1;1H#8z");
        Check.due("brought back", x.cell(2, 4), 10122);
        Check.due("brought back without being saved", Check.cursor(Check.with("#[1mabc\n#8")), "0,0");
        Check.due("the attribute then", Check.with("#[1mabc\n#8").told(4), 0);
        InputrowConsole late = Check.with("abcdefghijkl#7\r#8");
        Check.due("late", Check.cursor(late), "0,11!");
        Check.write(late, "#[?7l#8");
        Check.due("late without WRAP", Check.cursor(late), "0,11");
        Check.due("beyond", Check.cursor(beyond(4, 8)), "3,7!");
        Check.due("beyond and late", Check.cursor(beyond(4, 12)), "3,11!");
        Check.due("late but not in the last column", Check.cursor(beyond(6, 20)), "5,11");
        InputrowConsole origin = Check.with("#[2;4r#[?6h#7#[?6l#8#[1;1H");
        Check.due("ORIGIN", Check.cursor(origin), "1,0");
        InputrowConsole twice = Check.with("ab#7cd#8#[5;5H#8");
        Check.due("brought back twice", Check.cursor(twice), "0,2");
    }

    private static InputrowConsole beyond(int rows, int columns) {
        InputrowConsole x = Check.with("#[6;1Habcdefghijkl#7#[1;1H");
        x.size(rows, columns);
        Check.write(x, "#8");
        return x;
    }

    private static void titles() {
        InputrowConsole x = Check.with("#]hello `?\u0007");
        Check.due("title", Check.title(x), "hello `?");
        Check.write(x, "#]no#");
        Check.due("without a title", Check.title(x), "hello `?");
        Check.write(x, "]no\u0018");
        Check.due("24 without a title", Check.title(x), "hello `?");
        Check.due("24: GROUND", x.told(3), InputrowConsole.GROUND);
        Check.write(x, "#]abcdefghijklmnopqrst\u0007");
        Check.due("16 of them", Check.title(x), "abcdefghijklmnop");
        Check.write(x, "#]a\u0001\n\u007fb\u0007");
        Check.due("others are nothing", Check.title(x), "ab");
        Check.due("7 does not ring", x.told(10), 0);
        Check.write(x, "#]\u0007");
        Check.due("an empty one", x.told(19), 0);
        Check.due("nothing drawn", Check.row(x, 0), "............");
    }

    private static void resets() {
        InputrowConsole x = Check.with(3, 5, "#]t\u0007#[1mabcdefghijklmnopq\u0007#7#[?1;6h#[?7l#[?25l#[?100;204h#[4h#[1;2r#H");
        Check.due("history ahead", Check.past(x), "abcde+");
        Check.write(x, "#[?47hxyz#c");
        Check.due("rows", Check.rows(x), "..... ..... .....");
        int[] due = {0, 0, 0, 0, 0, 0, 2, 3, 5, 1, 1, 0, 0, 0, 0, 0, 0, 0, 1, 1, 4};
        for (int what = 0; what < due.length; what++) {
            Check.due("reset: told(" + what + ")", x.told(what), due[what]);
        }
        Check.due("history", Check.past(x), "abcde");
        Check.due("key without KEYS", x.key(InputrowConsole.UP, 0), 3);
        x.type(13);
        Check.due("key sent", Check.taken(x), "#[A\n");
        Check.due("mouse", x.mouse(0, 0, 0), 0);
        Check.due("paste", x.paste(), 0);
        Check.write(x, "#[Hab#[1;1Hcdefghi");
        Check.due("without INSERT, with WRAP", Check.rows(x), "cdefg+ hi... .....");
        Check.write(x, "#8#[?47h");
        Check.due("brought back", Check.cursor(x), "0,0");
        Check.due("OTHER", Check.rows(x), "..... ..... .....");
        InputrowConsole y = Check.with("#[3g#cab");
        Check.due("tabs", y.told(20), 4);
        Check.due("INSERT", Check.row(Check.with("#[4h#cabc#[1;1Hx"), 0), "xbc.........");
        Check.due("ORIGIN", Check.cursor(Check.with("#[2;3r#[?6h#c#[2;3r#[1;1H")), "0,0");
        Check.due("region: first", Check.with("#[2;3r#c").told(5), 0);
        Check.due("region: last", Check.with("#[2;3r#c").told(6), 5);
        Check.due("what was saved", Check.cursor(Check.with("#[3;4H#7#c#[5;5H#8")), "0,0");
        Check.due("saved attribute", Check.with("#[1m#7#c#[2m#8").told(4), 0);
        Check.due("saved ORIGIN", Check.cursor(Check.with("#[2;3r#[?6h#7#c#8#[2;3r#[1;1H")), "0,0");
        Check.due("WRAP", Check.rows(Check.with(2, 4, "#[?7l#cabcde")), "abcd+ e...");
        Check.due("flags", Check.rows(Check.with(2, 4, "abcde#c")), ".... ....");
        InputrowConsole other = Check.with(2, 4, "abcdefghij#[?47h#c");
        Check.due("the history ends, from OTHER, too", other.goesOn(-1), false);
        Check.due("MAIN is shown", other.told(11), 0);
    }

    private static void held() {
        InputrowConsole x = new InputrowConsole();
        x.type(19);
        for (int i = 1; i <= 100; i++) {
            Check.due("held " + i, x.write('a'), i);
        }
        Check.badState("write when 100 are held", () -> x.write('b'));
        Check.badArgument("wrong byte when 100 are held", () -> x.write(128));
        Check.due("still 100", x.told(13), 100);
        Check.due("nothing on the screen", Check.row(x, 0), "............");
        x.type(17);
        Check.due("started", x.told(13), 0);
        Check.due("all came", Check.past(x), "aaaaaaaaaaaa+ aaaaaaaaaaaa+ aaaaaaaaaaaa+");
        Check.due("goes at once", x.write('b'), 0);
        Check.due("the last row", Check.row(x, 5), "aaaab.......");
    }
}
