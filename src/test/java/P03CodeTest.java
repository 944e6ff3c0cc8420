/** Promise 3: code, and what the codes mean. */
public final class P03CodeTest {
    private static final String SIX = "abc\r\ndef\r\nghi\r\njkl\r\nmno\r\npqr";

    public static void main(String[] args) {
        wrongArguments();
        whatIsWritten();
        noRoom();
        numbers();
        wrongCodes();
        moves();
        places();
        erasing();
        lines();
        scrolling();
        cells();
        regions();
        attributes();
        tabs();
        answers();
        modes();
        pictures();
        late();
        Check.end();
    }

    private static void wrongArguments() {
        InputrowConsole x = new InputrowConsole();
        Check.badArgument("one -1", () -> x.code(false, -1, 0, 'A'));
        Check.badArgument("one 1000", () -> x.code(false, 1000, 0, 'A'));
        Check.badArgument("two -1", () -> x.code(false, 0, -1, 'A'));
        Check.badArgument("two 1000", () -> x.code(false, 0, 1000, 'A'));
        Check.badArgument("b 63", () -> x.code(false, 0, 0, 63));
        Check.badArgument("b 127", () -> x.code(true, 0, 0, 127));
        Check.badArgument("b -1", () -> x.code(true, 0, 0, -1));
        Check.due("b 64", x.code(false, 999, 999, 64), 0);
        Check.due("b 126", x.code(true, 0, 0, 126), 0);
        Check.due("nothing drawn", Check.row(x, 0), "............");
    }

    private static void whatIsWritten() {
        String all = "^[[0A ^[[7A ^[[10;5H ^[[?999h ^[[?0;100h ^[[0;999H";
        InputrowConsole x = new InputrowConsole();
        x.type(19);
        int[] due = {4, 8, 15, 22, 31, 39};
        int[][] codes = {{0, 0, 0, 'A'}, {0, 7, 0, 'A'}, {0, 10, 5, 'H'}, {1, 999, 0, 'h'}, {1, 0, 100, 'h'}, {0, 0, 999, 'H'}};
        for (int i = 0; i < due.length; i++) {
            int[] c = codes[i];
            Check.due("bytes of " + all.split(" ")[i], x.code(c[0] == 1, c[1], c[2], c[3]), due[i]);
        }
        InputrowConsole y = new InputrowConsole();
        Check.write(y, "#]");
        y.code(true, 120, 45, 'z');
        Check.due("ESC ends the title", y.told(3), InputrowConsole.GROUND);
        InputrowConsole full = new InputrowConsole();
        full.type(19);
        for (int i = 0; i < 24; i++) {
            full.code(false, 5, 0, 'C');
        }
        Check.due("96 are held", full.told(13), 96);
        Check.badState("no room for 5", () -> full.code(true, 5, 0, 'C'));
        Check.badState("no room for 6", () -> full.code(false, 5, 5, 'C'));
        Check.badArgument("the wrong argument comes first", () -> full.code(false, 1000, 0, 'C'));
        Check.due("room for 4", full.code(false, 5, 0, 'C'), 100);
        full.type(17);
        Check.due("25 codes", Check.cursor(full), "0,11");
    }

    private static void noRoom() {
        int[][] lengths = {{0, 0, 4}, {9, 0, 4}, {10, 0, 5}, {99, 0, 5}, {100, 0, 6}, {999, 0, 6}, {5, 9, 6}, {5, 10, 7},
            {5, 99, 7}, {5, 100, 8}, {10, 10, 8}, {100, 100, 10}};
        for (int[] l : lengths) {
            for (int marked = 0; marked <= 1; marked++) {
                InputrowConsole x = new InputrowConsole();
                x.type(19);
                for (int i = 0; i < 100 - l[2] - marked; i++) {
                    x.write('a');
                }
                String name = marked + ", " + l[0] + ", " + l[1];
                boolean isMarked = marked == 1;
                InputrowConsole y = new InputrowConsole();
                y.type(19);
                for (int i = 0; i < 101 - l[2] - marked; i++) {
                    y.write('a');
                }
                Check.due("just room: " + name, x.code(isMarked, l[0], l[1], 'A'), 100);
                Check.badState("no room: " + name, () -> y.code(isMarked, l[0], l[1], 'A'));
                Check.due("nothing is held of it: " + name, y.told(13), 101 - l[2] - marked);
            }
        }
    }

    private static void numbers() {
        Check.due("none is 0", Check.with("#[1m#[m").told(4), 0);
        Check.due("four of them", Check.with("#[1;2;3;4m").told(4), 15);
        Check.due("a fifth one does not count", Check.with("#[1;1;1;1;2m").told(4), 1);
        Check.due("nor do digits in the sixth", Check.with("#[1;1;1;3;2;44m").told(4), 5);
        Check.due("one ; tells two", Check.with("#[1;m").told(4), 0);
        Check.due("999 at most", Check.cursor(Check.with("#[99999999999999C")), "0,11");
        Check.due("999 at most, also then", Check.with("#[4294967297m").told(4), 0);
        Check.due("zeros ahead", Check.cursor(Check.with("#[0003C")), "0,3");
        Check.due("a second number alone", Check.cursor(Check.with("#[;5H")), "0,4");
    }

    private static void wrongCodes() {
        Check.due("blank", Check.cursor(Check.with("#[ 3C")), "0,0");
        Check.due("colon", Check.cursor(Check.with("#[3:C")), "0,0");
        Check.due("less", Check.cursor(Check.with("#[<3C")), "0,0");
        Check.due("? later on", Check.with("#[2?5l").told(18), 1);
        Check.due("? twice", Check.with("#[??25l").told(18), 1);
        Check.due("? behind ;", Check.with("#[;?25l").told(18), 1);
        Check.due("wrong, but ended", Check.with("#[3:C").told(3), InputrowConsole.GROUND);
        Check.due("the next one is right", Check.cursor(Check.with("#[3:C#[3C")), "0,3");
        Check.due("? without a meaning", Check.cursor(Check.with("#[?3C")), "0,0");
        Check.due("? and m", Check.with("#[?1m").told(4), 0);
        Check.due("no meaning", Check.cursor(Check.with("ab#[3z")), "0,2");
        Check.due("@ alone ends it", Check.with("#[@").told(3), InputrowConsole.GROUND);
    }

    private static void moves() {
        InputrowConsole x = Check.with("#[3;5H");
        String[] codes = {"#[A", "#[2B", "#[0C", "#[3D", "#[9A", "#[99B", "#[99C", "#[99D"};
        String[] due = {"1,4", "3,4", "3,5", "3,2", "0,2", "5,2", "5,11", "5,0"};
        for (int i = 0; i < codes.length; i++) {
            Check.write(x, codes[i]);
            Check.due(codes[i], Check.cursor(x), due[i]);
        }
        Check.due("not kept by the region", Check.cursor(Check.with("#[2;3r#[3;1H#[9B")), "5,0");
    }

    private static void places() {
        Check.due("H", Check.cursor(Check.with("ab\n#[H")), "0,0");
        Check.due("H far", Check.cursor(Check.with("#[99;99H")), "5,11");
        Check.due("H 0;0", Check.cursor(Check.with("ab#[0;0H")), "0,0");
        Check.due("ORIGIN", Check.cursor(Check.with("#[2;4r#[?6h#[2;3H")), "2,2");
        Check.due("ORIGIN far", Check.cursor(Check.with("#[2;4r#[?6h#[99;99H")), "3,11");
        Check.due("ORIGIN on", Check.cursor(Check.with("#[2;4rabc#[?6h")), "1,0");
        Check.due("ORIGIN off", Check.cursor(Check.with("#[2;4r#[?6habc#[?6l")), "0,0");
        Check.due("ORIGIN from late", Check.cursor(Check.with("abcdefghijkl#[?6l")), "0,0");
    }

    private static void erasing() {
        String text = "abcdefghijklm#[1;5H";
        Check.due("K", Check.row(Check.with(text + "#[K"), 0), "abcd........");
        Check.due("K 1", Check.row(Check.with(text + "#[1K"), 0), ".....fghijkl+");
        Check.due("K 2", Check.row(Check.with(text + "#[2K"), 0), "............");
        Check.due("K 3", Check.row(Check.with(text + "#[3K"), 0), "abcdefghijkl+");
        Check.due("K 1 at the last column", Check.row(Check.with("abcdefghijklm#[1;12H#[1K"), 0), "............");
        Check.due("K in a wide sign", Check.row(Check.with("aBc#[1;3H#[K"), 0), "a...........");
        Check.due("K 1 in a wide sign", Check.row(Check.with("aBc#[1;2H#[1K"), 0), "...c........");
        Check.due("J", Check.rows(Check.with(3, 4, "abcdefghij#[2;3H#[J")), "abcd+ ef.. ....");
        Check.due("J 1", Check.rows(Check.with(3, 4, "abcdefghij#[2;3H#[1J")), ".... ...h+ ij..");
        Check.due("J 2", Check.rows(Check.with(3, 4, "abcdefghij#[2;3H#[2J")), ".... .... ....");
        Check.due("J 4", Check.rows(Check.with(3, 4, "abcdefghij#[2;3H#[4J")), "abcd+ efgh+ ij..");
        Check.due("the cursor stays", Check.cursor(Check.with("abc#[2J")), "0,3");
        InputrowConsole x = Check.with(2, 4, "abcdefghij");
        Check.due("history", x.told(9), 1);
        Check.write(x, "#[3J");
        Check.due("no history", x.told(9), 0);
        Check.due("rows stay", Check.rows(x), "efgh+ ij..");
        InputrowConsole y = Check.with(2, 4, "abcdefghij#[?47h#[3J");
        Check.due("no history by OTHER", y.told(9), 0);
    }

    private static void lines() {
        InputrowConsole x = Check.with(4, 4, "a\r\nb\r\nc\r\nd#[2;3H#[L");
        Check.due("L", Check.rows(x), "a... .... b... c...");
        Check.due("the column", Check.cursor(x), "1,0");
        InputrowConsole y = Check.with(4, 4, "a\r\nb\r\nc\r\nd#[2;3H#[2M");
        Check.due("M", Check.rows(y), "a... d... .... ....");
        Check.due("the column", Check.cursor(y), "1,0");
        InputrowConsole z = Check.with(4, 4, "a\r\nb\r\nc\r\nd#[1;3r#[1;3H#[M");
        Check.due("M in a region", Check.rows(z), "b... c... .... d...");
        Check.due("no history", z.told(9), 0);
        Check.write(z, "#[4;3H#[M#[L");
        Check.due("not in the region", Check.rows(z), "b... c... .... d...");
        Check.due("the column stays", Check.cursor(z), "3,2");
        Check.write(z, "#[2;1H#[999L");
        Check.due("very many", Check.rows(z), "b... .... .... d...");
        InputrowConsole on = Check.with(4, 4, "abcdefghijklmn#[2;1H#[L");
        Check.due("L: goes on", Check.rows(on), "abcd .... efgh+ ijkl");
        InputrowConsole off = Check.with(3, 4, "abcdefghijklmn#[1;1H#[M");
        Check.due("M: goes on", Check.rows(off), "ijkl+ mn.. ....");
        Check.due("M: the history ends", Check.past(off), "abcd");
        InputrowConsole last = Check.with(3, 4, "abcdefghij#[3;1H#[L");
        Check.due("L in the last row", Check.rows(last), "abcd+ efgh ....");
    }

    private static void scrolling() {
        InputrowConsole x = Check.with(SIX + "#[2S");
        Check.due("S", Check.rows(x), "ghi......... jkl......... mno......... pqr......... ............ ............");
        Check.due("its history", Check.past(x), "abc......... def.........");
        Check.due("the cursor stays", Check.cursor(x), "5,3");
        Check.write(x, "#[3T");
        Check.due("T", Check.rows(x), "............ ............ ............ ghi......... jkl......... mno.........");
        Check.due("the history stays", Check.past(x), "abc......... def.........");
        InputrowConsole y = Check.with(4, 4, "a\r\nb\r\nc\r\nd#[2;3r#[S");
        Check.due("S in a region", Check.rows(y), "a... c... .... d...");
        Check.due("no history by that", y.told(9), 0);
        InputrowConsole z = Check.with(2, 4, "a\r\nb#[999S");
        Check.due("999 times", z.told(9), 40);
        Check.due("all empty", z.past(0, 0) + z.past(39, 0), 0);
        Check.due("late stays", Check.cursor(Check.with("abcdefghijkl#[S#[T")), "0,11!");
        InputrowConsole other = Check.with("a\r\nb#[?47h#[S");
        Check.due("S of OTHER", other.told(9), 0);
        InputrowConsole on = Check.with(2, 4, "abcdefghij#[T");
        Check.due("T ends the history", Check.past(on), "abcd");
        Check.due("T ends the last row", Check.rows(on), ".... efgh");
    }

    private static void cells() {
        Check.due("@", Check.row(Check.with("abcdefghijkl#[1;3H#[2@"), 0), "ab..cdefghij");
        Check.due("@ far", Check.row(Check.with("abcdefghijkl#[1;3H#[99@"), 0), "ab..........");
        Check.due("@ far behind a wide sign", Check.row(Check.with("aBcdefghijk#[1;6H#[9@"), 0), "aB<cd.......");
        Check.due("@ in a wide sign", Check.row(Check.with("aBcd#[1;3H#[@"), 0), "a...cd......");
        Check.due("@ moves half of one away", Check.row(Check.with("abcdefghijK#[1;1H#[@"), 0), ".abcdefghij.");
        Check.due("P", Check.row(Check.with("abcdefghijkl#[1;3H#[2P"), 0), "abefghijkl..");
        Check.due("P far", Check.row(Check.with("abcdefghijkl#[1;3H#[99P"), 0), "ab..........");
        Check.due("P of a tail", Check.row(Check.with("aBcd#[1;3H#[P"), 0), "a.cd........");
        Check.due("P of a head", Check.row(Check.with("aBcd#[1;2H#[P"), 0), "a.cd........");
        Check.due("P from behind", Check.row(Check.with("abCde#[1;2H#[2P"), 0), "a.de........");
        Check.due("X", Check.row(Check.with("abcdefghijkl#[1;3H#[2X"), 0), "ab..efghijkl");
        Check.due("X far", Check.row(Check.with("abcdefghijkl#[1;3H#[99X"), 0), "ab..........");
        Check.due("X of a head", Check.row(Check.with("aBc#[1;2H#[X"), 0), "a..c........");
        Check.due("X of a tail", Check.row(Check.with("aBc#[1;3H#[X"), 0), "a..c........");
        Check.due("the row goes on", Check.row(Check.with("abcdefghijklm#[1;3H#[99X"), 0), "ab..........+");
        Check.due("also by P", Check.row(Check.with("abcdefghijklm#[1;3H#[99P"), 0), "ab..........+");
    }

    private static void regions() {
        InputrowConsole x = Check.with("abc\n#[2;4r");
        Check.due("first", x.told(5), 1);
        Check.due("last", x.told(6), 3);
        Check.due("cursor", Check.cursor(x), "0,0");
        Check.write(x, "ab#[4;4r#[5;2r#[3;7r#[7;9r");
        Check.due("none of these: first", x.told(5), 1);
        Check.due("none of these: last", x.told(6), 3);
        Check.due("cursor stays", Check.cursor(x), "0,2");
        Check.write(x, "#[?6h#[3;0r");
        Check.due("0 is the last one", x.told(6), 5);
        Check.due("with ORIGIN", Check.cursor(x), "2,0");
        Check.write(x, "#[r");
        Check.due("all: first", x.told(5), 0);
        Check.due("all: last", x.told(6), 5);
        Check.due("late also without", Check.cursor(Check.with("abcdefghijkl#[4;4r")), "0,11");
        Check.write(x, "#[0;2r");
        Check.due("0 is the first one", x.told(5) * 10 + x.told(6), 1);
    }

    private static void attributes() {
        InputrowConsole x = Check.with("#[1m");
        String[] codes = {"#[1m", "#[4m", "#[22m", "#[21m", "#[2;3m", "#[23;1m", "#[0m", "#[5;25;20;999m", "#[4;0;2m"};
        int[] due = {1, 9, 9, 8, 14, 11, 0, 0, 2};
        for (int i = 0; i < codes.length; i++) {
            Check.write(x, codes[i]);
            Check.due(codes[i], x.told(4), due[i]);
        }
        Check.write(x, "a#[1;2;3;4mb");
        Check.due("attribute 2", x.cell(0, 0), 2097);
        Check.due("attribute 15", x.cell(0, 1), 15098);
        Check.due("erasing takes none", Check.with("#[1mabc#[2K").cell(0, 0), 0);
    }

    private static void tabs() {
        Check.due("g elsewhere", Check.with("#[1;6H#[g\r").told(20), 4);
        Check.due("g", Check.with("#[1;5H#[g\r").told(20), 8);
        Check.due("g 3", Check.with("#[3g").told(20), InputrowConsole.NONE);
        Check.due("g 2", Check.with("#[2g").told(20), 4);
    }

    private static void answers() {
        InputrowConsole x = Check.with("#[5n");
        Check.due("5", Check.taken(x), "#[0n");
        Check.write(x, "#[3;12H#[6n");
        Check.due("6", Check.taken(x), "#[3;12R");
        Check.write(x, "#[2;4r#[?6h#[2;3H#[6n");
        Check.due("6 with ORIGIN", Check.taken(x), "#[2;3R");
        Check.write(x, "#[9A#[6n");
        Check.due("at least 1", Check.taken(x), "#[1;3R");
        Check.write(x, "#[n#[7n#[?6n");
        Check.due("others send nothing", x.told(15), 0);
        Check.due("not echoed", Check.row(x, 0), "............");
        for (int i = 0; i < 67; i++) {
            x.code(false, 5, 0, 'n');
        }
        Check.due("200 at most", x.told(15), 200);
        Check.due("what has no room is lost", Check.taken(x).endsWith("#[0n#[0n"), true);
        for (int i = 0; i < 39; i++) {
            x.code(false, 5, 0, 'n');
        }
        for (int i = 0; i < 8; i++) {
            x.code(false, 6, 0, 'n');
        }
        Check.due("a part of it has room", x.told(15), 200);
        Check.due("that is its beginning", Check.taken(x).endsWith("#[1;3R#[1;3R#[1;3R#[1;3R#[1;3R#[1;3R#[1;3R#["), true);
    }

    private static void modes() {
        InputrowConsole x = Check.with("#[?25l");
        Check.due("SHOWN off", x.told(18), 0);
        Check.write(x, "#[?1;25h");
        Check.due("SHOWN on", x.told(18), 1);
        x.rule(true, false);
        x.key(InputrowConsole.UP, 0);
        Check.due("KEYS", Check.taken(x), "#OA");
        Check.write(x, "#[25l#[1l#[?4h");
        Check.due("without ?", x.told(18), 1);
        x.key(InputrowConsole.UP, 0);
        Check.due("still KEYS", Check.taken(x), "#OA");
        InputrowConsole y = Check.with("abcd#[1;2H#[4hxY#[4lz");
        Check.due("INSERT", Check.row(y, 0), "axY<zcd.....");
        Check.due("INSERT of a wide sign", Check.row(Check.with("abcdefghijkl#[4h#[1;11HA"), 0), "abcdefghijA<");
        Check.due("INSERT in a wide sign", Check.row(Check.with("aBc#[4h#[1;3Hx"), 0), "a.x.c.......");
        Check.due("INSERT moves half away", Check.row(Check.with("abcdefghijK#[4h#[1;1Hx"), 0), "xabcdefghij.");
        Check.due("INSERT without WRAP", Check.row(Check.with("abcdefghijkl#[?7l#[4h#[1;12HA"), 0), "abcdefghijA<");
        Check.due("? 4 is nothing", Check.row(Check.with("abc#[?4h\rx"), 0), "xbc.........");
        Check.due("WRAP off: not late", Check.cursor(Check.with("abcdefghijkl#[?7l")), "0,11");
        Check.due("WRAP on: still late", Check.cursor(Check.with("abcdefghijkl#[?7h")), "0,11!");
        Check.due("WRAP among others", Check.cursor(Check.with("#[?25;7labcdefghijklm")), "0,11");
        Check.due("other modes", Check.cursor(Check.with("abc#[?2;3;5;8h#[7l")), "0,3");
    }

    private static void pictures() {
        InputrowConsole x = Check.with("abc#[1m#[?47h");
        Check.due("OTHER", x.told(11), 1);
        Check.due("its cells", Check.row(x, 0), "............");
        Check.due("the cursor stays", Check.cursor(x), "0,3");
        Check.write(x, "d#[2;2He#[0m#[?47h");
        Check.due("on again", Check.row(x, 1), ".e..........");
        Check.write(x, "#[?47l");
        Check.due("MAIN", Check.row(x, 0), "abc.........");
        Check.due("the cursor is back", Check.cursor(x), "0,3");
        Check.due("the attribute is back", x.told(4), 1);
        Check.write(x, "xyz#[?47l");
        Check.due("off again", Check.cursor(x), "0,6");
        Check.write(x, "#[?47h");
        Check.due("OTHER is empty again", Check.rows(x),
                "............ ............ ............ ............ ............ ............");
        Check.write(x, "#[5;5H#7#[1;1H#[?47l");
        Check.due("one saved cursor", Check.cursor(x), "4,4");
        InputrowConsole on = Check.with(3, 4, "#[?47habcdef#[?47l#[?47h");
        Check.due("OTHER does not go on", Check.rows(on), ".... .... ....");
    }

    private static void late() {
        String[] ending = {"#[A", "#[B", "#[C", "#[D", "#[H", "#[J", "#[9J", "#[K", "#[9K", "#[L", "#[M", "#[@", "#[P", "#[X", "#[r"};
        for (String code : ending) {
            Check.due(code + " ends late", Check.with("abcdefghijkl" + code).told(2), 0);
        }
        Check.due("L beside the region", Check.with("#[2;3rabcdefghijkl#[L").told(2), 0);
        Check.due("M beside the region", Check.with("#[2;3rabcdefghijkl#[M").told(2), 0);
        String[] keeping = {"#[S", "#[T", "#[1m", "#[g", "#[6n", "#[4h", "#[?1h", "#[?25l", "#7", "#H", "#[z", "#[?J", "#[3:A", "#[?47h"};
        for (String code : keeping) {
            Check.due(code + " keeps late", Check.with("abcdefghijkl" + code).told(2), 1);
        }
    }
}
