import java.util.Objects;

/** What the tests have in common: it prints what is not as due, and ends with 1 if there was such a thing. */
final class Check {
    /** A call whose exception is looked at. */
    interface Call {
        Object make();
    }

    private static int made = 0;
    private static int wrong = 0;

    private Check() {
    }

    static void due(String call, Object got, Object want) {
        made++;
        if (!Objects.equals(got, want)) {
            wrong++;
            System.out.println(call + " answered " + got + ", due is " + want);
        }
    }

    static void dueThrow(String call, String want, Call made) {
        String got;
        try {
            got = "answer " + made.make();
        } catch (RuntimeException e) {
            got = e.getClass().getSimpleName();
        }
        due(call, got, want);
    }

    static void outOfBounds(String call, Call made) {
        dueThrow(call, "IndexOutOfBoundsException", made);
    }

    static void badArgument(String call, Call made) {
        dueThrow(call, "IllegalArgumentException", made);
    }

    static void badState(String call, Call made) {
        dueThrow(call, "IllegalStateException", made);
    }

    static void end() {
        System.out.println(made - wrong + " answers as due, " + wrong + " not");
        if (wrong != 0 || made == 0) {
            System.exit(1);
        }
    }

    // ---- what is done with a console, in short

    /** Writes a text; a # stands for ESC. */
    static void write(InputrowConsole x, String text) {
        for (int i = 0; i < text.length(); i++) {
            x.write(text.charAt(i) == '#' ? 27 : text.charAt(i));
        }
    }

    /** A new console with a text written. */
    static InputrowConsole with(String text) {
        InputrowConsole x = new InputrowConsole();
        write(x, text);
        return x;
    }

    /** A new console of a size with a text written. */
    static InputrowConsole with(int rows, int columns, String text) {
        InputrowConsole x = new InputrowConsole();
        x.size(rows, columns);
        write(x, text);
        return x;
    }

    static void type(InputrowConsole x, String text) {
        for (int i = 0; i < text.length(); i++) {
            x.type(text.charAt(i) == '#' ? 27 : text.charAt(i));
        }
    }

    static void draft(InputrowConsole x, String text) {
        for (int i = 0; i < text.length(); i++) {
            x.draft(text.charAt(i) == '#' ? 27 : text.charAt(i));
        }
    }

    /** All that the program takes; ESC is a #. */
    static String taken(InputrowConsole x) {
        StringBuilder text = new StringBuilder();
        for (int b = x.take(); b != InputrowConsole.NONE; b = x.take()) {
            text.append(b == 27 ? '#' : (char) b);
        }
        return text.toString();
    }

    private static void show(StringBuilder text, int cell) {
        if (cell == 0) {
            text.append('.');
        } else if (cell == -2) {
            text.append('<');
        } else {
            text.append((char) (cell % 1000));
        }
    }

    /** A row: . is an empty cell, < a tail, a + at the end says that the row goes on. */
    static String row(InputrowConsole x, int row) {
        StringBuilder text = new StringBuilder();
        for (int column = 0; column < x.told(8); column++) {
            show(text, x.cell(row, column));
        }
        return text.append(x.goesOn(row) ? "+" : "").toString();
    }

    /** The rows of the picture that is shown. */
    static String rows(InputrowConsole x) {
        StringBuilder text = new StringBuilder();
        for (int row = 0; row < x.told(7); row++) {
            text.append(row == 0 ? "" : " ").append(row(x, row));
        }
        return text.toString();
    }

    /** The rows of the history, the oldest one first. */
    static String past(InputrowConsole x) {
        StringBuilder text = new StringBuilder();
        int count = x.told(9);
        for (int row = 0; row < count; row++) {
            text.append(row == 0 ? "" : " ");
            for (int column = 0; column < x.told(8); column++) {
                show(text, x.past(row, column));
            }
            text.append(x.goesOn(row - count) ? "+" : "");
        }
        return text.toString();
    }

    /** The row and the column of the cursor, and ! if it is late. */
    static String cursor(InputrowConsole x) {
        return x.told(0) + "," + x.told(1) + (x.told(2) == 1 ? "!" : "");
    }

    /** All that can be asked without changing anything. */
    static String all(InputrowConsole x) {
        StringBuilder text = new StringBuilder(rows(x)).append(past(x)).append(title(x));
        for (int what = 0; what <= 20; what++) {
            text.append(' ').append(x.told(what));
        }
        for (int row = 0; row < x.told(7); row++) {
            text.append(' ').append(x.least(row));
            for (int column = 0; column < x.told(8); column++) {
                text.append(' ').append(x.cell(row, column)).append(' ').append(x.cellAnew(row, column));
            }
        }
        return text.toString();
    }

    static String title(InputrowConsole x) {
        StringBuilder text = new StringBuilder();
        for (int place = 0; place < x.told(19); place++) {
            text.append((char) x.title(place));
        }
        return text.toString();
    }
}
