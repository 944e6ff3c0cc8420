/** The boundary cases of the document's section "The line rule"; the comments are its sentences. */
public final class LineEdgesTest {
    private static final int INTERRUPT = 3;
    private static final int END = 4;
    private static final int START = 17;
    private static final int STOP = 19;

    public static void main(String[] args) {
        for (int b = 0; b <= 127; b++) {
            inAnEmptyLine(b);
            inALine(b);
            inAFullLine(b);
            countOfEcho(b);
            withoutEcho(b);
            raw(b);
        }
        lengthsOfTheLine();
        lastByteTakenAway();
        wordsTakenAway();
        linesTakenAway();
        sentLines();
        counted();
        heldBytes();
        heldCodes();
        lostEcho();
        stopsAndStarts();
        program();
        answersForAFullProgram();
        rules();
        Check.end();
    }

    private static boolean isCommand(int b) {
        return b == INTERRUPT || b == END || b == 10 || b == 13 || b == START || b == STOP || b == 21 || b == 23 || b == 127;
    }

    /** How the echo of a byte that is added looks: below 32 as ^ and the byte 64 greater. */
    private static String drawn(int b) {
        if (b >= 32) {
            return b == 96 ? "" : b >= 'A' && b <= 'Z' ? (char) b + "<" : "" + (char) b;
        }
        return b >= 1 && b <= 26 ? "^" + (char) (b + 64) + "<" : "^" + (char) (b + 64);
    }

    private static String padded(String text) {
        return (text + "............").substring(0, 12);
    }

    /** 4: if it is empty, an END is counted; 3: an INTERRUPT is counted; 10 and 13: the line and 10 are for the program. */
    private static void inAnEmptyLine(int b) {
        InputrowConsole x = new InputrowConsole();
        String name = "empty line, " + b + ": ";
        Check.due(name + "type", x.type(b), isCommand(b) ? 0 : 1);
        Check.due(name + "ENDs", x.told(16), b == END ? 1 : 0);
        Check.due(name + "INTERRUPTs", x.told(17), b == INTERRUPT ? 1 : 0);
        Check.due(name + "stopped", x.told(12), b == STOP ? 1 : 0);
        Check.due(name + "cursor's row", x.told(0), b == 10 || b == 13 ? 1 : 0);
        Check.due(name + "echo", Check.row(x, 0), padded(isCommand(b) ? "" : drawn(b)));
        Check.due(name + "rings", x.told(10), 0);
        Check.due(name + "program", Check.taken(x), b == 10 || b == 13 ? "\n" : "");
    }

    private static void inALine(int b) {
        InputrowConsole x = new InputrowConsole();
        Check.type(x, "ab");
        String name = "line of 2, " + b + ": ";
        int stays = b == START || b == STOP ? 2 : b == 127 ? 1 : 0;
        Check.due(name + "type", x.type(b), isCommand(b) ? stays : 3);
        Check.due(name + "ENDs", x.told(16), 0);
        Check.due(name + "INTERRUPTs", x.told(17), b == INTERRUPT ? 1 : 0);
        Check.due(name + "stopped", x.told(12), b == STOP ? 1 : 0);
        String echo = isCommand(b) ? "ab" : "ab" + drawn(b);
        echo = b == 21 || b == 23 ? "  " : b == 127 ? "a " : echo;
        Check.due(name + "echo", Check.row(x, 0), padded(echo));
        String due = b == 10 || b == 13 ? "ab\n" : b == END ? "ab" : "";
        Check.due(name + "program", Check.taken(x), due);
    }

    /** A line of at most 30 bytes; if there is no room, 7 is echoed instead. */
    private static void inAFullLine(int b) {
        InputrowConsole x = new InputrowConsole();
        Check.type(x, "a".repeat(30));
        String before = Check.rows(x);
        String name = "full line, " + b + ": ";
        int left = isCommand(b) ? 0 : 30;
        left = b == START || b == STOP ? 30 : b == 127 ? 29 : left;
        Check.due(name + "type", x.type(b), left);
        Check.due(name + "rings", x.told(10), isCommand(b) ? 0 : 1);
        boolean isErased = b == 127 || b == 21 || b == 23;
        Check.due(name + "nothing drawn", Check.rows(x).equals(before), !isErased);
        x.rule(true, false);
        String sent = "a".repeat(left);
        sent = b == 10 || b == 13 ? "a".repeat(30) + "\n" : b == END ? "a".repeat(30) : sent;
        Check.due(name + "program", Check.taken(x), sent);
    }

    /** What is echoed is held when it is stopped; (3, 4, 17 and 19 echo nothing). */
    private static void countOfEcho(int b) {
        String[] lines = {"", "a", "\u0001", "a\u0001", " ", "a b"};
        int[] ofLine = {0, 3, 6, 9, 3, 9};
        int[] ofWord = {0, 3, 6, 9, 3, 3};
        int[] ofLast = {0, 3, 6, 6, 3, 3};
        for (int i = 0; i < lines.length; i++) {
            InputrowConsole x = new InputrowConsole();
            Check.type(x, lines[i]);
            x.type(STOP);
            x.type(b);
            int due = b < 32 ? 2 : 1;
            due = b == 21 ? ofLine[i] : b == 23 ? ofWord[i] : b == 127 ? ofLast[i] : due;
            due = b == INTERRUPT || b == END || b == START || b == STOP ? 0 : due;
            Check.due("line " + i + ", stopped, " + b + ": held", x.told(13), due);
        }
    }

    private static void withoutEcho(int b) {
        InputrowConsole x = new InputrowConsole();
        x.rule(false, false);
        Check.due("without ECHO, " + b, x.type(b), isCommand(b) ? 0 : 1);
        x.type(START);
        Check.due("without ECHO, " + b + ": nothing drawn", Check.rows(x), Check.rows(new InputrowConsole()));
        Check.due("without ECHO, " + b + ": the cursor", Check.cursor(x), "0,0");
        InputrowConsole full = new InputrowConsole();
        full.rule(false, false);
        Check.type(full, "a".repeat(30));
        full.type(b);
        Check.due("without ECHO, full, " + b + ": rings", full.told(10), 0);
        InputrowConsole raw = new InputrowConsole();
        raw.rule(true, false);
        raw.type(b);
        Check.due("RAW without ECHO, " + b + ": all but the program", Check.rows(raw) + Check.cursor(raw) + raw.told(10) + raw.told(3),
                Check.rows(new InputrowConsole()) + "0,000");
        Check.due("RAW without ECHO, " + b + ": the program", raw.take(), b);
    }

    /** RAW: each byte is for the program, and is echoed as it is, if ECHO is on. */
    private static void raw(int b) {
        InputrowConsole x = new InputrowConsole();
        x.rule(true, true);
        Check.due("RAW, " + b, x.type(b), 0);
        Check.due("RAW, " + b + ": in the program's row", x.told(15), 1);
        Check.due("RAW, " + b + ": the program", x.take(), b);
        Check.due("RAW, " + b + ": ENDs, INTERRUPTs, stopped", x.told(16) + x.told(17) + x.told(12), 0);
        InputrowConsole due = new InputrowConsole();
        due.write(b);
        Check.due("RAW, " + b + ": echo", Check.all(x), Check.all(due));
    }

    private static void lengthsOfTheLine() {
        InputrowConsole x = new InputrowConsole();
        for (int count = 1; count <= 33; count++) {
            Check.due("byte " + count + " of a line", x.type('a'), Math.min(count, 30));
            Check.due("rings at byte " + count, x.told(10), Math.max(count - 30, 0));
            Check.due("the line has, at byte " + count, x.told(14), Math.min(count, 30));
        }
        Check.due("echo of 30", Check.cursor(x), "2,6");
        x.type(127);
        Check.due("room for one", x.type('b'), 30);
        Check.due("no room again", x.type('c'), 30);
        x.type(10);
        Check.due("the line", Check.taken(x), "a".repeat(29) + "b\n");
        Check.due("an empty line again", x.type('d'), 1);
    }

    private static void line(String typed, String due) {
        InputrowConsole x = new InputrowConsole();
        Check.type(x, typed);
        Check.due("the line has, behind " + typed, x.told(14), due.length());
        x.rule(true, false);
        Check.due("the line behind " + typed, Check.taken(x), due);
    }

    /** 127 takes its last byte away; for each byte that is taken away 8, 32, 8 is echoed, for one below 32 twice. */
    private static void lastByteTakenAway() {
        line("\u007f", "");
        line("a\u007f", "");
        line("a\u007f\u007fb", "b");
        line("ab\u007f", "a");
        line(" \u007f", "");
        line("a\u001f\u007f", "a");
        InputrowConsole below = new InputrowConsole();
        Check.type(below, "a\u001f\u007f");
        Check.due("31 taken away", Check.row(below, 0) + Check.cursor(below), "a  .........0,1");
        InputrowConsole blank = new InputrowConsole();
        Check.type(blank, "a \u007f");
        Check.due("32 taken away", Check.row(blank, 0) + Check.cursor(blank), "a ..........0,1");
        InputrowConsole least = new InputrowConsole();
        least.type(0);
        least.type(127);
        Check.due("0 taken away", Check.row(least, 0) + Check.cursor(least), "  ..........0,0");
        InputrowConsole none = Check.with("ab");
        none.type(127);
        Check.due("nothing taken away", Check.row(none, 0) + Check.cursor(none), "ab..........0,2");
    }

    /** 23 blanks at its end, then what is no blank. */
    private static void wordsTakenAway() {
        line("\u0017", "");
        line(" \u0017", "");
        line("   \u0017", "");
        line("a\u0017", "");
        line("abc\u0017", "");
        line("a \u0017", "");
        line(" a\u0017", " ");
        line("a b\u0017", "a ");
        line("a b  \u0017", "a ");
        line("a  b\u0017", "a  ");
        line("  a  \u0017", "  ");
        line("a b c\u0017\u0017", "a ");
        line("a\tb\u0017", "");
        line("a\u001fb\u0017", "");
        line("a !b\u0017", "a ");
        line("a".repeat(30) + "\u0017", "");
        line(" ".repeat(30) + "\u0017", "");
        line("a" + " ".repeat(29) + "\u0017", "");
        line(" " + "a".repeat(29) + "\u0017", " ");
        line("a".repeat(29) + " \u0017", "");
    }

    /** 21 all. */
    private static void linesTakenAway() {
        line("\u0015", "");
        line("a\u0015", "");
        line(" a b \u0015", "");
        line("a".repeat(30) + "\u0015b", "b");
        InputrowConsole x = new InputrowConsole();
        x.rule(false, false);
        Check.type(x, "\u0001".repeat(30));
        x.rule(false, true);
        x.size(6, 24);
        Check.write(x, "#[3;24H");
        x.type(21);
        Check.due("21 of 30 below 32: 60 cells, but not over the beginning of a row", Check.cursor(x), "2,0");
    }

    /** 10 and 13: the line and 10 are for the program; 4: the line is for the program; 3: the line is gone. */
    private static void sentLines() {
        String[] lines = {"", "a", " ", "\u0001", "a".repeat(29), "a".repeat(30)};
        for (String text : lines) {
            int[] ends = {10, 13, END, INTERRUPT};
            String[] due = {text + "\n", text + "\n", text, ""};
            for (int i = 0; i < 4; i++) {
                InputrowConsole x = new InputrowConsole();
                Check.type(x, text);
                Check.due("line of " + text.length() + ", " + ends[i], x.type(ends[i]), 0);
                Check.due("line of " + text.length() + ", " + ends[i] + ": the program", Check.taken(x), due[i]);
                Check.due("line of " + text.length() + ", " + ends[i] + ": ENDs", x.told(16), i == 2 && text.isEmpty() ? 1 : 0);
                Check.due("line of " + text.length() + ", " + ends[i] + ": INTERRUPTs", x.told(17), i == 3 ? 1 : 0);
            }
        }
    }

    private static void counted() {
        InputrowConsole x = new InputrowConsole();
        for (int count = 1; count <= 5; count++) {
            x.type(END);
            Check.type(x, "a\u0004");
            Check.due("ENDs", x.told(16), count);
            x.type(INTERRUPT);
            Check.due("INTERRUPTs", x.told(17), count);
        }
        InputrowConsole taken = new InputrowConsole();
        Check.type(taken, "a\u007f\u0004");
        Check.due("an END of a line that is empty again", taken.told(16), 1);
    }

    /** When it is stopped, it is held, at most 100 bytes, and comes when it is started. */
    private static void heldBytes() {
        InputrowConsole x = new InputrowConsole();
        x.size(12, 24);
        Check.due("nothing is held", x.write('-'), 0);
        x.type(STOP);
        for (int count = 1; count <= 100; count++) {
            Check.due("byte " + count + " is held", x.write('0' + count % 10), count);
        }
        Check.badState("the byte 101", () -> x.write('a'));
        Check.badArgument("a wrong byte 101", () -> x.write(-1));
        Check.due("100 are held", x.told(13), 100);
        Check.due("nothing came", Check.row(x, 0), "-.......................");
        x.type(START);
        Check.due("none is held", x.told(13), 0);
        Check.due("all came", Check.cursor(x), "4,5");
        Check.due("the first one", x.cell(0, 1), (int) '1');
        Check.due("the last one", x.cell(4, 4), (int) '0');
        Check.due("and one more", x.write('a'), 0);
        Check.due("comes at once", x.cell(4, 5), (int) 'a');
    }

    private static InputrowConsole held(int count) {
        InputrowConsole x = new InputrowConsole();
        x.type(STOP);
        for (int i = 0; i < count; i++) {
            x.write('a');
        }
        return x;
    }

    /** IllegalStateException if it is stopped, and there is no room for all of it. */
    private static void heldCodes() {
        int[][] codes = {{0, 0, 0, 4}, {0, 9, 0, 4}, {0, 10, 0, 5}, {0, 99, 0, 5}, {0, 100, 0, 6}, {0, 999, 0, 6}, {1, 0, 0, 5},
            {0, 0, 1, 6}, {0, 0, 9, 6}, {0, 0, 10, 7}, {0, 0, 99, 7}, {0, 0, 100, 8}, {0, 0, 999, 8}, {1, 999, 999, 11}};
        for (int[] c : codes) {
            String name = "code " + c[0] + ", " + c[1] + ", " + c[2] + ": ";
            Check.due(name + "held", held(0).code(c[0] == 1, c[1], c[2], 'z'), c[3]);
            Check.due(name + "just room", held(100 - c[3]).code(c[0] == 1, c[1], c[2], 'z'), 100);
            InputrowConsole full = held(101 - c[3]);
            Check.badState(name + "a byte too many", () -> full.code(c[0] == 1, c[1], c[2], 'z'));
            Check.due(name + "nothing of it is held", full.told(13), 101 - c[3]);
            Check.due(name + "still room for the rest", full.write('b'), 102 - c[3]);
            InputrowConsole none = held(100);
            Check.badState(name + "no room at all", () -> none.code(c[0] == 1, c[1], c[2], 'z'));
        }
        InputrowConsole x = held(0);
        x.code(true, 25, 0, 'l');
        Check.due("not read while it is held", x.told(18), 1);
        x.type(START);
        Check.due("read then", x.told(18), 0);
        Check.due("not stopped: none is held", x.code(false, 999, 999, 'H'), 0);
    }

    /** What is echoed is written (when it is stopped, it is held, what has no room is lost). */
    private static void lostEcho() {
        int[][] cases = {{99, 'a', 100}, {100, 'a', 100}, {98, 1, 100}, {99, 1, 100}, {98, 10, 100}, {99, 10, 100}, {97, 'a', 98}};
        for (int[] c : cases) {
            InputrowConsole x = held(c[0]);
            x.type(c[1]);
            Check.due(c[0] + " are held, then " + c[1], x.told(13), c[2]);
        }
        InputrowConsole half = held(99);
        half.type(1);
        half.type(START);
        Check.due("half of the echo", Check.row(half, 5), "aaa^........");
        InputrowConsole line = held(100);
        Check.due("the line has it all the same", line.type('b'), 1);
        Check.due("and the program", line.type(10), 0);
        Check.due("and the program: bytes", Check.taken(line), "b\n");
        InputrowConsole raw = held(100);
        raw.rule(true, true);
        raw.type('c');
        Check.due("RAW: the program has it", Check.taken(raw), "c");
        Check.due("RAW: the echo is lost", raw.told(13), 100);
        InputrowConsole away = held(98);
        away.rule(false, false);
        away.type('d');
        away.rule(false, true);
        away.type(127);
        Check.due("2 of 3 of what takes away", away.told(13), 100);
    }

    /** 19 stops, 17 starts. */
    private static void stopsAndStarts() {
        InputrowConsole x = new InputrowConsole();
        x.type(START);
        Check.due("17 when it is not stopped", x.told(12), 0);
        x.type(STOP);
        x.type(STOP);
        Check.due("19 twice", x.told(12), 1);
        x.write('a');
        x.type(START);
        Check.due("17 once", x.told(12), 0);
        Check.due("what was held", Check.row(x, 0), "a...........");
        x.type(START);
        Check.due("17 twice", Check.row(x, 0), "a...........");
        x.type(STOP);
        Check.due("nothing is held at first", x.told(13), 0);
        x.type(START);
        Check.due("nothing comes", Check.cursor(x), "0,1");
        InputrowConsole raw = new InputrowConsole();
        raw.type(STOP);
        raw.rule(true, true);
        raw.type(START);
        Check.due("RAW: 17 is a byte", raw.told(12) * 10 + raw.told(13), 11);
        raw.rule(false, true);
        raw.type(START);
        Check.due("COOKED again: 17 starts", raw.told(12) * 10 + raw.told(13), 0);
        InputrowConsole size = held(3);
        size.size(2, 4);
        Check.due("size() does not start", size.told(12) * 10 + size.told(13), 13);
    }

    private static InputrowConsole filled(int count) {
        InputrowConsole x = new InputrowConsole();
        x.rule(true, false);
        for (int i = 0; i < count; i++) {
            x.type('.');
        }
        return x;
    }

    /** The program has a row of at most 200 bytes; what has no room is lost. */
    private static void program() {
        for (int count = 195; count <= 203; count++) {
            InputrowConsole raw = filled(count);
            Check.due(count + " bytes", raw.told(15), Math.min(count, 200));
            raw.rule(false, false);
            Check.type(raw, "abc\n");
            String due = (".".repeat(Math.min(count, 200)) + "abc\n");
            due = due.substring(0, Math.min(due.length(), 200));
            Check.due(count + " bytes and a line", raw.told(15), due.length());
            Check.due(count + " bytes and a line: all", Check.taken(raw), due);
            Check.due(count + " bytes: none is left", raw.take(), InputrowConsole.NONE);
        }
        InputrowConsole full = filled(200);
        full.type('a');
        Check.due("full", full.told(15), 200);
        Check.due("the first one", full.take(), (int) '.');
        Check.due("one less", full.told(15), 199);
        full.type('b');
        Check.due("room for one", Check.taken(full), ".".repeat(199) + "b");
        InputrowConsole line = filled(199);
        line.rule(false, false);
        Check.type(line, "ab");
        Check.due("by rule()", line.rule(true, false), false);
        Check.due("by rule(): what has room", Check.taken(line), ".".repeat(199) + "a");
        InputrowConsole key = filled(198);
        Check.due("key() types 3", key.key(InputrowConsole.UP, 0), 3);
        Check.due("key(): what has room", Check.taken(key).substring(195), "...#[");
        InputrowConsole end = filled(200);
        end.rule(false, false);
        end.type(END);
        Check.due("an END is counted", end.told(16), 1);
    }

    /** What n sends is for the program at once, and is not echoed. */
    private static void answersForAFullProgram() {
        for (int count = 195; count <= 200; count++) {
            InputrowConsole x = filled(count);
            Check.write(x, "#[5n");
            String due = (".".repeat(count) + "#[0n");
            Check.due("5 n at " + count, Check.taken(x), due.substring(0, Math.min(due.length(), 200)));
            InputrowConsole y = filled(count);
            Check.write(y, "#[6n");
            due = ".".repeat(count) + "#[1;1R";
            Check.due("6 n at " + count, Check.taken(y), due.substring(0, Math.min(due.length(), 200)));
        }
        InputrowConsole line = new InputrowConsole();
        Check.type(line, "ab");
        Check.write(line, "#[5n");
        Check.due("at once, ahead of the line", Check.taken(line), "#[0n");
        Check.due("not echoed", Check.row(line, 0), "ab..........");
        Check.due("the line stays", line.told(14), 2);
        InputrowConsole stopped = held(0);
        Check.write(stopped, "#[5n");
        Check.due("not while it is held", stopped.told(15), 0);
        stopped.type(START);
        Check.due("then", Check.taken(stopped), "#[0n");
    }

    /** rule(): what was in the line is for the program, if it was COOKED and is RAW then. */
    private static void rules() {
        boolean[] both = {false, true};
        for (boolean echoes : both) {
            InputrowConsole x = new InputrowConsole();
            Check.type(x, "ab");
            Check.due("COOKED to COOKED", x.rule(false, echoes), false);
            Check.due("the line stays", x.told(14) * 10 + x.told(15), 20);
            Check.due("COOKED to RAW", x.rule(true, echoes), false);
            Check.due("the line is sent", x.told(14) * 10 + x.told(15), 2);
            Check.due("RAW to RAW", x.rule(true, echoes), true);
            Check.due("RAW to COOKED", x.rule(false, echoes), true);
            Check.due("nothing more is sent", x.told(15), 2);
            Check.due("an empty line to RAW", x.rule(true, echoes), false);
            Check.due("nothing is sent of it", Check.taken(x), "ab");
            Check.due("no END by that", x.told(16), 0);
            Check.due("nothing is echoed by that", Check.row(x, 0), "ab..........");
        }
        InputrowConsole full = new InputrowConsole();
        Check.type(full, "a".repeat(30));
        full.rule(true, true);
        Check.due("a full line", Check.taken(full), "a".repeat(30));
    }
}
