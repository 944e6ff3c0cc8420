/**
 * The boundary cases of the document's section "Exceptions" and of the range of each argument: the least and the
 * greatest one, the ones just beyond them, which of several exceptions is thrown, and that nothing is changed then.
 */
public final class RefusedEdgesTest {
    private static final int[] NUMBERS = {-1, 0, 1, 9, 10, 99, 100, 998, 999, 1000};
    // How many refused calls are tried.
    private static final int COUNT = 34;
    private static final int[] ENDS = {-1, 62, 63, 64, 65, 125, 126, 127, 128};

    public static void main(String[] args) {
        writing();
        codes();
        typing();
        cells(2, 4);
        cells(6, 12);
        cells(12, 24);
        pastRows(0);
        pastRows(1);
        pastRows(39);
        pastRows(40);
        told();
        titles();
        refusedChangeNothing(false);
        refusedChangeNothing(true);
        Check.end();
    }

    /** A console in which much is full; it is stopped, if that is wanted. */
    private static InputrowConsole full(boolean isStopped) {
        InputrowConsole x = Check.with(3, 6, "#]title\u0007#[?100;204h#[2mabcDe`fghijklmnop\r\nqRs\r\nt#[2;3r#[3;4H#7#[2;5Hu#[");
        Check.type(x, "a\n" + "b".repeat(30));
        Check.draft(x, "d".repeat(40));
        if (isStopped) {
            x.type(19);
            for (int i = 0; i < 100; i++) {
                x.write('0' + i % 10);
            }
        }
        return x;
    }

    /** b: 0 to 127; IllegalArgumentException is listed first. */
    private static void writing() {
        InputrowConsole stopped = full(true);
        for (int b = -3; b <= 130; b++) {
            int byteOf = b;
            InputrowConsole x = new InputrowConsole();
            if (b < 0 || b > 127) {
                Check.badArgument("write " + b, () -> x.write(byteOf));
                Check.badArgument("write " + b + ", no room", () -> stopped.write(byteOf));
            } else {
                Check.due("write " + b, x.write(b), 0);
                Check.badState("write " + b + ", no room", () -> stopped.write(byteOf));
            }
        }
        Check.due("100 are held", stopped.told(13), 100);
    }

    /** one: 0 to 999; two: 0 to 999; b: 64 to 126. */
    private static void codes() {
        InputrowConsole stopped = full(true);
        for (int one : NUMBERS) {
            for (int two : NUMBERS) {
                for (int b : ENDS) {
                    boolean isRight = one >= 0 && one <= 999 && two >= 0 && two <= 999 && b >= 64 && b <= 126;
                    String name = "code " + one + ", " + two + ", " + b;
                    InputrowConsole x = new InputrowConsole();
                    Check.dueThrow(name, isRight ? "answer 0" : "IllegalArgumentException", () -> x.code(false, one, two, b));
                    Check.dueThrow("? " + name, isRight ? "answer 0" : "IllegalArgumentException", () -> x.code(true, one, two, b));
                    String due = isRight ? "IllegalStateException" : "IllegalArgumentException";
                    Check.dueThrow(name + ", no room", due, () -> stopped.code(false, one, two, b));
                    Check.dueThrow("? " + name + ", no room", due, () -> stopped.code(true, one, two, b));
                }
            }
        }
        Check.due("100 are held", stopped.told(13), 100);
    }

    /** b: 0 to 127. */
    private static void typing() {
        for (int b = -3; b <= 130; b++) {
            int typed = b;
            InputrowConsole cooked = new InputrowConsole();
            InputrowConsole raw = new InputrowConsole();
            raw.rule(true, true);
            InputrowConsole stopped = full(true);
            if (b < 0 || b > 127) {
                Check.badArgument("type " + b, () -> cooked.type(typed));
                Check.badArgument("RAW, type " + b, () -> raw.type(typed));
                Check.badArgument("stopped, type " + b, () -> stopped.type(typed));
            } else {
                Check.due("type " + b, cooked.type(b), cooked.told(14));
                Check.due("RAW, type " + b, raw.type(b), 0);
                Check.due("stopped, type " + b, stopped.type(b), stopped.told(14));
            }
        }
    }

    /** There is no such row, column. */
    private static void cells(int rows, int columns) {
        InputrowConsole x = Check.with(rows, columns, "");
        int[] rowEdges = {Integer.MIN_VALUE, -1, 0, 1, rows - 1, rows, rows + 1, Integer.MAX_VALUE};
        int[] columnEdges = {Integer.MIN_VALUE, -1, 0, 1, columns - 1, columns, columns + 1, Integer.MAX_VALUE};
        for (int row : rowEdges) {
            for (int column : columnEdges) {
                boolean isThere = row >= 0 && row < rows && column >= 0 && column < columns;
                String due = isThere ? "answer 0" : "IndexOutOfBoundsException";
                Check.dueThrow("cell " + row + "," + column, due, () -> x.cell(row, column));
                Check.dueThrow("cellAnew " + row + "," + column, due, () -> x.cellAnew(row, column));
                Check.dueThrow("mouse " + row + "," + column, due, () -> x.mouse(1, row, column));
                Check.dueThrow("past " + row + "," + column, "IndexOutOfBoundsException", () -> x.past(row, column));
            }
            String due = row >= 0 && row < rows ? "answer 0" : "IndexOutOfBoundsException";
            Check.dueThrow("least " + row, due, () -> x.least(row));
            due = row >= 0 && row < rows ? "answer false" : "IndexOutOfBoundsException";
            Check.dueThrow("goesOn " + row, due, () -> x.goesOn(row));
        }
    }

    /** row: 0 for the oldest one; column: a column of the screen; goesOn: below 0 one of the history. */
    private static void pastRows(int count) {
        InputrowConsole x = Check.with(2, 5, "");
        if (count > 0) {
            x.code(false, count, 0, 'S');
        }
        Check.due("rows of the history", x.told(9), count);
        for (int row : new int[] {Integer.MIN_VALUE, -1, 0, count - 1, count, count + 1, 40, Integer.MAX_VALUE}) {
            for (int column : new int[] {Integer.MIN_VALUE, -1, 0, 4, 5, 11, 23, 24, Integer.MAX_VALUE}) {
                boolean isThere = row >= 0 && row < count && column >= 0 && column < 5;
                String due = isThere ? "answer 0" : "IndexOutOfBoundsException";
                Check.dueThrow(count + " rows, past " + row + "," + column, due, () -> x.past(row, column));
            }
        }
        for (int row : new int[] {Integer.MIN_VALUE, -count - 1, -count, -1, 0, 1, 2, Integer.MAX_VALUE}) {
            String due = row >= -count && row < 2 ? "answer false" : "IndexOutOfBoundsException";
            Check.dueThrow(count + " rows, goesOn " + row, due, () -> x.goesOn(row));
        }
    }

    /** what: 0 to 20. */
    private static void told() {
        InputrowConsole x = new InputrowConsole();
        int[] due = {0, 0, 0, 0, 0, 0, 5, 6, 12, 0, 0, 0, 0, 0, 0, 0, 0, 0, 1, 0, 4};
        for (int what = -3; what <= 23; what++) {
            int asked = what;
            boolean isThere = what >= 0 && what <= 20;
            Check.dueThrow("told " + what, isThere ? "answer " + due[what] : "IllegalArgumentException", () -> x.told(asked));
        }
    }

    /** place: from 0. */
    private static void titles() {
        int[] lengths = {0, 1, 15, 16};
        for (int length : lengths) {
            InputrowConsole x = Check.with("#]" + "t".repeat(length) + "\u0007");
            for (int place : new int[] {Integer.MIN_VALUE, -1, 0, length - 1, length, 16, Integer.MAX_VALUE}) {
                String due = place >= 0 && place < length ? "answer 116" : "IndexOutOfBoundsException";
                Check.dueThrow("place " + place + " of " + length, due, () -> x.title(place));
            }
        }
    }

    /** A call that throws an exception changes nothing. */
    private static void refusedChangeNothing(boolean isStopped) {
        for (int i = 0; i < COUNT; i++) {
            InputrowConsole x = full(isStopped);
            String before = Check.all(x);
            String got;
            try {
                got = "answer " + refused(x, i, isStopped);
            } catch (IllegalArgumentException | IllegalStateException | IndexOutOfBoundsException e) {
                got = "refused";
            }
            Check.due("call " + i, got, "refused");
            Check.due("nothing is changed by the call " + i, Check.all(x), before);
            Check.due("nothing is changed for later calls by the call " + i, later(x), later(full(isStopped)));
        }
    }

    private static Object refused(InputrowConsole x, int call, boolean isStopped) {
        switch (call) {
            case 0: return x.write(-1);
            case 1: return x.write(128);
            case 2: return isStopped ? x.write('a') : x.write(-2);
            case 3: return x.code(true, -1, 5, 'h');
            case 4: return x.code(true, 1000, 5, 'h');
            case 5: return x.code(true, 25, -1, 'l');
            case 6: return x.code(true, 25, 1000, 'l');
            case 7: return x.code(false, 1, 1, 63);
            case 8: return x.code(false, 1, 1, 127);
            case 9: return isStopped ? x.code(false, 1, 1, 'H') : x.code(false, 1, 1, 0);
            case 10: return x.type(-1);
            case 11: return x.type(128);
            case 12: return x.key(-1, 0);
            case 13: return x.key(7, 0);
            case 14: return x.key(0, -1);
            case 15: return x.key(6, 8);
            case 16: return x.draft(0);
            case 17: return x.draft(127);
            case 18: return x.draft(1);
            case 19: return x.draft(126);
            case 20: return x.mouse(0, 3, 0);
            case 21: return x.mouse(0, 0, 6);
            case 22: return x.mouse(-1, 0, 0);
            case 23: return x.mouse(3, 0, 0);
            default: return refusedSizesAndQuestions(x, call);
        }
    }

    private static Object refusedSizesAndQuestions(InputrowConsole x, int call) {
        switch (call) {
            case 24: return x.size(1, 12);
            case 25: return x.size(13, 12);
            case 26: return x.size(6, 3);
            case 27: return x.size(6, 25);
            case 28: return x.cell(3, 0);
            case 29: return x.cellAnew(0, 6);
            case 30: return x.past(2, 0);
            case 31: return x.goesOn(3);
            case 32: return x.title(5);
            default: return x.least(3);
        }
    }

    /** What many calls answer that show what told() does not. */
    private static String later(InputrowConsole x) {
        StringBuilder text = new StringBuilder();
        text.append(x.draw()).append(' ').append(x.type(127)).append(' ').append(x.type(17)).append(' ').append(Check.taken(x));
        text.append(x.rule(true, true)).append(' ').append(Check.taken(x)).append(x.paste()).append(' ').append(Check.taken(x));
        text.append(Check.all(x)).append(x.draft('z')).append(x.mouse(0, 0, 0)).append(Check.taken(x));
        Check.write(x, "#8v#[?47hw");
        text.append(Check.all(x)).append(x.size(4, 9)).append(Check.all(x));
        Check.write(x, "#[?47l");
        return text.append(Check.all(x)).append(x.draw()).toString();
    }
}
