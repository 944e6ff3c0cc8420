/** The boundary cases of the first half of "What is written": the states of reading; the comments are its sentences. */
public final class BytesEdgesTest {
    private static final String[] BEFORE = {"", "#", "#[", "#]"};
    private static final String[] STATES = {"GROUND", "ESCAPE", "CODE", "TITLE"};

    public static void main(String[] args) {
        statesBehindEachByte();
        ringing();
        places();
        lateness();
        latenessBehindMarkedCodes();
        back();
        tabStops();
        tabAtTheLastColumn();
        setTabs();
        lineEnds();
        marks();
        marksOfWideSigns();
        titleLengths();
        titleBytes();
        titleEnds();
        countOfNumbers();
        greatestNumber();
        firstBytesOfACode();
        laterBytesOfACode();
        controlsInACode();
        Check.end();
    }

    private static int dueState(int state, int b) {
        if (b == 27) {
            return InputrowConsole.ESCAPE;
        }
        boolean isPrinted = b >= 32 && b <= 126;
        switch (state) {
            case InputrowConsole.GROUND:
                return state;
            case InputrowConsole.ESCAPE:
                if (b == '[' || b == ']') {
                    return b == '[' ? InputrowConsole.CODE : InputrowConsole.TITLE;
                }
                return isPrinted || b == 24 ? InputrowConsole.GROUND : state;
            case InputrowConsole.CODE:
                return b >= 64 && isPrinted || b == 24 ? InputrowConsole.GROUND : state;
            default:
                return b == 7 || b == 24 ? InputrowConsole.GROUND : state;
        }
    }

    /**
     * Bytes are 0 to 127. 24: GROUND; 27: ESCAPE. ESCAPE: [ CODE, and ] TITLE begin; all bytes from 32 to 126 but [ and
     * ] end it: GROUND. CODE: a byte from 64 to 126 ends it. TITLE: 7, 27 and 24 end it.
     */
    private static void statesBehindEachByte() {
        for (int state = 0; state < 4; state++) {
            for (int b = 0; b <= 127; b++) {
                InputrowConsole x = Check.with(BEFORE[state]);
                Check.due(STATES[state], x.told(3), state);
                x.write(b);
                Check.due(STATES[state] + ", then " + b, x.told(3), dueState(state, b));
                boolean isDrawn = state == InputrowConsole.GROUND && b >= 32 && b <= 126 && b != 96;
                Check.due(STATES[state] + ", then " + b + ": the first cell", x.cell(0, 0), isDrawn ? b : 0);
            }
        }
    }

    /** In each state but TITLE: 7 rings. */
    private static void ringing() {
        for (int state = 0; state < 4; state++) {
            for (int b = 0; b <= 127; b++) {
                InputrowConsole x = Check.with(BEFORE[state]);
                x.write(b);
                int due = b == 7 && state != InputrowConsole.TITLE ? 1 : 0;
                Check.due(STATES[state] + ", then " + b + ": rings", x.told(10), due);
            }
        }
    }

    /** The cursor behind a byte, when it was at the row 1 and the column 5 and nothing was saved. */
    private static String duePlace(int state, int b) {
        if (state != InputrowConsole.TITLE) {
            switch (b) {
                case 8: return "1,4";
                case 9: return "1,8";
                case 10: return "2,5";
                case 13: return "1,0";
                default: break;
            }
        }
        if (state == InputrowConsole.GROUND) {
            boolean isWide = b >= 'A' && b <= 'Z';
            return b < 32 || b == 96 || b == 127 ? "1,5" : isWide ? "1,7" : "1,6";
        }
        if (state == InputrowConsole.ESCAPE) {
            switch (b) {
                case 'D': return "2,5";
                case 'E': return "2,0";
                case 'M': return "0,5";
                case '8': case 'c': return "0,0";
                default: return "1,5";
            }
        }
        return state == InputrowConsole.CODE ? duePlaceOfACode(b) : "1,5";
    }

    private static String duePlaceOfACode(int b) {
        switch (b) {
            case 'A': return "0,5";
            case 'B': return "2,5";
            case 'C': return "1,6";
            case 'D': return "1,4";
            case 'H': case 'r': return "0,0";
            case 'L': case 'M': return "1,0";
            default: return "1,5";
        }
    }

    /** Other bytes below 32, and 127, are nothing. */
    private static void places() {
        for (int state = 0; state < 4; state++) {
            for (int b = 0; b <= 127; b++) {
                InputrowConsole x = Check.with("#[2;6H" + BEFORE[state]);
                x.write(b);
                Check.due(STATES[state] + ", then " + b + ": the cursor", Check.cursor(x), duePlace(state, b));
                boolean isAnswer = x.told(15) != 0;
                Check.due(STATES[state] + ", then " + b + ": nothing sent", isAnswer, false);
            }
        }
    }

    private static boolean keepsLate(int state, int b) {
        if (state != InputrowConsole.TITLE && (b == 8 || b == 9 || b == 10 || b == 13)) {
            return false;
        }
        switch (state) {
            case InputrowConsole.GROUND: return b < 32 || b == 96 || b == 127;
            case InputrowConsole.ESCAPE: return "DEM8c".indexOf(b) < 0;
            case InputrowConsole.CODE: return "ABCDHJKLM@PXr".indexOf(b) < 0;
            default: return true;
        }
    }

    /**
     * 8, 9, 10 and 13 make the cursor not late; so do D, E and M; A, B, C, D, H, J, K, L, M, @, P, X, r, also if nothing
     * else is done by them.
     */
    private static void lateness() {
        for (int state = 0; state < 4; state++) {
            for (int b = 0; b <= 127; b++) {
                InputrowConsole x = Check.with("#[2;1Habcdefghijkl" + BEFORE[state]);
                Check.due("late", Check.cursor(x), "1,11!");
                x.write(b);
                Check.due(STATES[state] + ", then " + b + ": late", x.told(2), keepsLate(state, b) ? 1 : 0);
            }
        }
        String late = "#[2;3r#[6;1Habcdefghijkl#[";
        String[] nothingElse = {"9J", "9K", "L", "M", "4;4r", "7;9r", "99B", "99C"};
        for (String code : nothingElse) {
            InputrowConsole x = Check.with(late + code);
            Check.due("nothing done by " + code, Check.cursor(x), "5,11");
            Check.due("the row behind " + code, Check.row(x, 5), "abcdefghijkl");
        }
    }

    /** With ? just h and l mean something; 6: not late; 7: off: the cursor is not late. */
    private static void latenessBehindMarkedCodes() {
        for (int b = 64; b <= 126; b++) {
            InputrowConsole x = Check.with("#[2;1Habcdefghijkl#[?");
            x.write(b);
            Check.due("? and " + b, Check.cursor(x), "1,11!");
        }
        int[] modes = {0, 1, 2, 4, 5, 6, 7, 8, 24, 25, 26, 47, 100, 204, 999};
        for (int mode : modes) {
            InputrowConsole on = Check.with("#[2;1Habcdefghijkl");
            on.code(true, mode, 0, 'h');
            Check.due("? " + mode + " h", Check.cursor(on), mode == 6 ? "0,0" : "1,11!");
            InputrowConsole off = Check.with("#[2;1Habcdefghijkl");
            off.code(true, mode, 0, 'l');
            Check.due("? " + mode + " l", Check.cursor(off), mode == 6 ? "0,0" : mode == 7 ? "1,11" : "1,11!");
        }
    }

    /** 8: the column is one less, if it is not 0. */
    private static void back() {
        for (int column = 0; column < 12; column++) {
            InputrowConsole x = new InputrowConsole();
            x.code(false, 3, column + 1, 'H');
            x.write(8);
            Check.due("8 from the column " + column, Check.cursor(x), "2," + Math.max(column - 1, 0));
        }
        Check.due("8 when late", Check.cursor(Check.with("abcdefghijkl\b")), "0,10");
        Check.due("8 in the first row", Check.cursor(Check.with("\b\b")), "0,0");
        Check.due("8 behind a wrapped row", Check.cursor(Check.with("abcdefghijklm\b\b")), "1,0");
    }

    /** 9: the column is that of the next tab behind it, or the last one without; each fourth column from 0 on. */
    private static void tabStops() {
        for (int columns = 4; columns <= 24; columns++) {
            for (int column = 0; column < columns; column++) {
                int next = (column / 4 + 1) * 4;
                InputrowConsole x = Check.with(2, columns, "");
                x.code(false, 1, column + 1, 'H');
                String name = columns + " columns, from " + column + ": ";
                Check.due(name + "the next tab", x.told(20), next < columns ? next : InputrowConsole.NONE);
                x.write(9);
                Check.due(name + "9", Check.cursor(x), "0," + Math.min(next, columns - 1));
            }
        }
        Check.due("9 when late", Check.cursor(Check.with("abcdefghijkl\t")), "0,11");
    }

    private static void tabAtTheLastColumn() {
        InputrowConsole x = Check.with("#[1;12H#H#[1;9H");
        Check.due("a tab at the last column", x.told(20), 11);
        x.write(9);
        Check.due("9 to it", Check.cursor(x), "0,11");
        Check.due("none behind it", x.told(20), InputrowConsole.NONE);
        x.write(9);
        Check.due("9 from it", Check.cursor(x), "0,11");
        InputrowConsole none = Check.with("#[3g");
        Check.due("no tab at all", none.told(20), InputrowConsole.NONE);
        none.write(9);
        Check.due("9 without a tab", Check.cursor(none), "0,11");
    }

    /** H sets a tab at the column. g: the tab at the column is gone (0), all are (3). */
    private static void setTabs() {
        for (int column = 1; column < 12; column++) {
            InputrowConsole x = Check.with("#[3g");
            x.code(false, 2, column + 1, 'H');
            Check.write(x, "#H#[2;1H");
            Check.due("a tab set at " + column, x.told(20), column);
            x.code(false, 2, column, 'H');
            Check.due("just ahead of " + column, x.told(20), column);
            x.code(false, 2, column + 1, 'H');
            Check.due("at " + column, x.told(20), InputrowConsole.NONE);
            Check.write(x, "#H#[1g#[2g#[4g#[2;1H");
            Check.due("set twice, and other numbers of g", x.told(20), column);
            x.code(false, 2, column, 'H');
            Check.write(x, "#[g");
            Check.due("g ahead of it", x.told(20), column);
            x.code(false, 2, column + 1, 'H');
            Check.write(x, "#[0g#[2;1H");
            Check.due("g at " + column, x.told(20), InputrowConsole.NONE);
        }
        InputrowConsole first = Check.with("#[g#[1;1H\t");
        Check.due("the tab at the column 0 is never the next one", Check.cursor(first), "0,4");
    }

    /** 10 feeds a line; 13: the column is 0. */
    private static void lineEnds() {
        Check.due("10 in the last row but one", Check.cursor(Check.with("#[5;3H\n")), "5,2");
        Check.due("10 in the last row", Check.cursor(Check.with("#[6;3H\n")), "5,2");
        Check.due("10 in the last row: the history", Check.with("#[6;3H\n").told(9), 1);
        Check.due("13 in the last column", Check.cursor(Check.with("#[6;12H\r")), "5,0");
        Check.due("13 in the first column", Check.cursor(Check.with("#[6;1H\r")), "5,0");
        Check.due("13 when late", Check.cursor(Check.with("abcdefghijkl\r")), "0,0");
        Check.due("10 when late", Check.cursor(Check.with("abcdefghijkl\n")), "1,11");
        InputrowConsole x = Check.with("abcdefghijkl\n\rm");
        Check.due("10 does not make the row go on", x.goesOn(0), false);
    }

    /** The cell ahead of the cursor in its row, or that at the cursor if that is late, has one more, at most 3. */
    private static void marks() {
        Check.due("in the first column", Check.all(Check.with("a\r`")), Check.all(Check.with("a\r")));
        InputrowConsole first = Check.with("abcdefghijklm\r`");
        Check.due("none ahead of the first column", first.cell(1, 0), (int) 'm');
        Check.due("nor in the row above", first.cell(0, 11), (int) 'l');
        InputrowConsole second = Check.with("ab#[1;2H`");
        Check.due("ahead of the second column", second.cell(0, 0), 100097);
        Check.due("not at the second column", second.cell(0, 1), 98);
        InputrowConsole last = Check.with("abcdefghijkl#[1;12H`");
        Check.due("in the last column, not late", last.cell(0, 10), 100107);
        Check.due("in the last column, not late: its cell", last.cell(0, 11), 108);
        InputrowConsole late = Check.with("abcdefghijkl`");
        Check.due("in the last column, late", late.cell(0, 11), 100108);
        Check.due("in the last column, late: the one ahead", late.cell(0, 10), 107);
        InputrowConsole many = Check.with("a");
        for (int count = 1; count <= 5; count++) {
            many.write(96);
            Check.due(count + " marks", many.cell(0, 0), 97 + 100000 * Math.min(count, 3));
        }
        Check.due("nothing without a sign", Check.with("#[1;2H`").cell(0, 0), 0);
        Check.due("nothing when late without a sign", Check.with("abcdefghijkl#[S`").cell(0, 11), 0);
        Check.due("the cursor of a mark", Check.cursor(Check.with("a`")), "0,1");
    }

    /** Or of these the sign whose tail it is. */
    private static void marksOfWideSigns() {
        Check.due("ahead a tail", Check.with("A`").cell(0, 0), 100065);
        Check.due("the tail stays", Check.with("A`").cell(0, 1), -2);
        Check.due("ahead a head", Check.with("A#[1;2H`").cell(0, 0), 100065);
        Check.due("late at a tail", Check.with("abcdefghijA`").cell(0, 10), 100065);
        Check.due("late at a tail: the tail", Check.with("abcdefghijA`").cell(0, 11), -2);
        Check.due("three at most", Check.with("A````").cell(0, 0), 300065);
        Check.due("the cell ahead of the head", Check.with("aB`").cell(0, 0), 97);
    }

    /** The first 16 of them; 7 ends it: the title is that. */
    private static void titleLengths() {
        String all = "0123456789 qrstuvw~";
        for (int length = 0; length <= all.length(); length++) {
            InputrowConsole x = Check.with("#]old\u0007#]" + all.substring(0, length));
            Check.due("not yet: " + length, Check.title(x), "old");
            x.write(7);
            int count = Math.min(length, 16);
            Check.due("signs of " + length, x.told(19), count);
            Check.due("title of " + length, Check.title(x), all.substring(0, count));
            Check.outOfBounds("no place behind " + length, () -> x.title(count));
            Check.outOfBounds("no place -1 of " + length, () -> x.title(-1));
        }
    }

    /** Bytes from 32 to 126 are the title; other bytes are nothing. */
    private static void titleBytes() {
        for (int b = 0; b <= 127; b++) {
            if (b == 7 || b == 24 || b == 27) {
                continue;
            }
            InputrowConsole x = Check.with("#[2;6H#]<");
            x.write(b);
            Check.write(x, ">\u0007");
            boolean isIn = b >= 32 && b <= 126;
            Check.due("title with " + b, Check.title(x), isIn ? "<" + (char) b + ">" : "<>");
            Check.due("the cursor behind " + b, Check.cursor(x), "1,5");
        }
    }

    /** 27 ends it, too, without a title, and ESCAPE begins; 24 ends it likewise. */
    private static void titleEnds() {
        InputrowConsole x = Check.with("#]old\u0007#]new\u0018a");
        Check.due("24: the title stays", Check.title(x), "old");
        Check.due("24: GROUND", Check.row(x, 0), "a...........");
        InputrowConsole y = Check.with("#]old\u0007#]new#");
        Check.due("27: ESCAPE", y.told(3), InputrowConsole.ESCAPE);
        Check.due("27: the title stays", Check.title(y), "old");
        Check.write(y, "]\u0007");
        Check.due("the next one is empty", y.told(19), 0);
        Check.due("27 full", Check.title(Check.with("#]abcdefghijklmnopq#[A")), "");
        Check.due("7 behind a title rings", Check.with("#]a\u0007\u0007").told(10), 1);
    }

    /** Up to 4 numbers, parted by ; (further ones do not count), 0 without digits; m: each number told (one at least). */
    private static void countOfNumbers() {
        String[] codes = {"#[m", "#[;m", "#[1m", "#[1;2m", "#[1;2;3m", "#[1;2;3;4m", "#[21;22;23;24;4m", "#[1;1;1;1;0m",
            "#[1;2;3;4;0m", "#[1;2;3;4;;;;;m", "#[;1m", "#[;;1m", "#[;;;1m", "#[;;;;1m", "#[1;m", "#[1;;2m", "#[1;2;3;4;21;22m",
            "#[3;;;4m", "#[1;1;1;3;44;4m"};
        int[] due = {0, 0, 9, 11, 15, 15, 0, 9, 15, 15, 1, 1, 1, 0, 0, 2, 15, 8, 13};
        for (int i = 0; i < codes.length; i++) {
            Check.due("attribute 8, then " + codes[i], Check.with("#[4m" + codes[i]).told(4), due[i]);
        }
        InputrowConsole x = Check.with("#[?25;1;100;204l#[?1;100;204;2;25h");
        Check.due("a fifth mode does not count", x.told(18), 0);
        Check.write(x, "#[?25l#[?1;100;204;25h");
        Check.due("a fourth mode counts", x.told(18), 1);
        Check.write(x, "#[?1;100;204;2;25l");
        Check.due("a fifth mode off does not count", x.told(18), 1);
        Check.due("a third number of H is nothing", Check.cursor(Check.with("#[2;3;9;9H")), "1,2");
    }

    /** 999 at most. */
    private static void greatestNumber() {
        String[] same = {"#[1000m", "#[1001m", "#[1002m", "#[10001m", "#[4294967296m", "#[4294967297m", "#[65537m",
            "#[18446744073709551617m", "#[99999999999999999999999999m", "#[257m", "#[129m"};
        for (String code : same) {
            Check.due("no attribute by " + code, Check.with("#[2m" + code).told(4), 2);
        }
        Check.due("far right", Check.cursor(Check.with("#[4294967296C")), "0,11");
        Check.due("far right and back", Check.cursor(Check.with("#[99999999999C#[2147483648D")), "0,0");
        Check.due("no region to a far row", Check.with("#[1;4294967298r").told(6), 5);
        Check.due("no region from a far row", Check.with("#[4294967298;0r").told(5), 0);
        Check.due("zeros ahead", Check.with("#[00000000000000000001m").told(4), 1);
    }

    /** Digits, ; and, as its first byte, ?; other bytes from 32 to 63 make it wrong. */
    private static void firstBytesOfACode() {
        for (int b = 32; b <= 63; b++) {
            InputrowConsole x = Check.with("#[");
            x.write(b);
            Check.due("CODE behind " + b, x.told(3), InputrowConsole.CODE);
            Check.write(x, "3C");
            String due = "0,0";
            if (b >= '0' && b <= '9') {
                due = "0," + Math.min((b - '0') * 10 + 3, 11);
            } else if (b == ';') {
                due = "0,1";
            }
            Check.due("first " + b, Check.cursor(x), due);
            Check.due("ended: " + b, x.told(3), InputrowConsole.GROUND);
        }
    }

    /** And a ? later on, make it wrong. */
    private static void laterBytesOfACode() {
        for (int b = 32; b <= 63; b++) {
            InputrowConsole x = Check.with("#[?2");
            x.write(b);
            Check.write(x, "5l");
            Check.due("? 2, then " + b + ", 5 l", x.told(18), 1);
            InputrowConsole y = Check.with("#[3");
            y.write(b);
            y.write('C');
            boolean isRight = b >= '0' && b <= '9' || b == ';';
            Check.due("3, then " + b, Check.cursor(y), isRight ? b == ';' ? "0,3" : "0,11" : "0,0");
        }
        Check.due("? first", Check.with("#[?25l").told(18), 0);
        Check.due("? twice", Check.with("#[??25l").told(18), 1);
        Check.due("? behind a digit", Check.with("#[2?5l").told(18), 1);
        Check.due("? behind ;", Check.with("#[;?25l").told(18), 1);
        Check.due("? at the end", Check.with("#[25?l").told(18), 1);
        Check.due("the code behind a wrong one", Check.with("#[ ?25l#[?25l").told(18), 0);
        Check.due("a wrong code behind a right one", Check.with("#[?25l#[?25:h").told(18), 0);
    }

    private static void controlsInACode() {
        Check.due("10 in a code", Check.cursor(Check.with("#[3\nC")), "1,3");
        Check.due("13 between the digits", Check.cursor(Check.with("#[1\r0C")), "0,10");
        Check.due("127 between the digits", Check.cursor(Check.with("#[1\u007f0C")), "0,10");
        Check.due("24 in a code", Check.row(Check.with("#[3\u0018C"), 0), "C<..........");
        Check.due("27 in a code", Check.cursor(Check.with("#[3#[C")), "0,1");
        Check.due("27 behind ?", Check.cursor(Check.with("#[?3#[C")), "0,1");
        Check.due("27 behind a wrong byte", Check.cursor(Check.with("#[ 3#[C")), "0,1");
        Check.due("10 in ESCAPE", Check.cursor(Check.with("ab#\nE")), "2,0");
        Check.due("27 in ESCAPE", Check.cursor(Check.with("ab##E")), "1,0");
    }
}
