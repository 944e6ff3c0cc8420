/** The boundary cases of keys, pasting, the mouse and what the program takes; the comments are the document's sentences. */
public final class KeysEdgesTest {
    private static final String LETTERS = "ABCDHF";

    public static void main(String[] args) {
        for (int key = InputrowConsole.UP; key <= InputrowConsole.DELETE; key++) {
            for (int modifiers = 0; modifiers <= 7; modifiers++) {
                oneKey(key, modifiers);
            }
        }
        wrongKeys();
        keysIntoALine();
        draftLengths();
        draftBytes();
        pasting();
        pastingWithPaste();
        pastingLines();
        mousePlaces();
        wrongMouse();
        taking();
        Check.end();
    }

    /**
     * UP, DOWN, RIGHT, LEFT, HOME, END are ESC [ and A, B, C, D, H, F; with KEYS O in place of [; with modifiers, 1 to 7,
     * ESC [ 1 ; the modifiers and 1, and the letter, with KEYS, too. DELETE is ESC [ 3 ~, with modifiers ESC [ 3 ; the
     * modifiers and 1 ~.
     */
    private static void oneKey(int key, int modifiers) {
        for (String codes : new String[] {"", "#[?1h", "#[?1h#[?1l"}) {
            String due;
            if (key == InputrowConsole.DELETE) {
                due = modifiers == 0 ? "#[3~" : "#[3;" + (modifiers + 1) + "~";
            } else {
                String head = codes.equals("#[?1h") ? "#O" : "#[";
                due = (modifiers == 0 ? head : "#[1;" + (modifiers + 1)) + LETTERS.charAt(key);
            }
            InputrowConsole x = Check.with(codes);
            x.rule(true, false);
            String name = "key " + key + ", modifiers " + modifiers + codes;
            Check.due(name, x.key(key, modifiers), due.length());
            Check.due(name + ": bytes", Check.taken(x), due);
        }
    }

    private static void wrongKeys() {
        InputrowConsole x = new InputrowConsole();
        for (int modifiers = -1; modifiers <= 8; modifiers++) {
            int m = modifiers;
            Check.badArgument("key -1, modifiers " + m, () -> x.key(-1, m));
            Check.badArgument("key 7, modifiers " + m, () -> x.key(7, m));
        }
        for (int key = 0; key <= 6; key++) {
            int k = key;
            Check.badArgument("key " + k + ", modifiers -1", () -> x.key(k, -1));
            Check.badArgument("key " + k + ", modifiers 8", () -> x.key(k, 8));
        }
        Check.due("nothing is changed by these", Check.all(x), Check.all(new InputrowConsole()));
    }

    /** Keys, pasting and the mouse type bytes, one after the other. */
    private static void keysIntoALine() {
        for (int count = 26; count <= 30; count++) {
            InputrowConsole x = new InputrowConsole();
            Check.type(x, "a".repeat(count));
            Check.due("a key behind " + count, x.key(InputrowConsole.LEFT, 0), 3);
            Check.due("the line then", x.told(14), Math.min(count + 3, 30));
            Check.due("rings then", x.told(10), Math.max(count - 27, 0));
            x.type(10);
            Check.due("the program", Check.taken(x), ("a".repeat(count) + "#[D").substring(0, Math.min(count + 3, 30)) + "\n");
        }
        InputrowConsole stopped = new InputrowConsole();
        stopped.type(19);
        stopped.key(InputrowConsole.UP, 7);
        Check.due("stopped: the echo is held", stopped.told(13), 7);
        Check.due("stopped: the line", stopped.told(14), 6);
    }

    /** Throws IllegalStateException if it has 40. */
    private static void draftLengths() {
        InputrowConsole x = new InputrowConsole();
        for (int count = 1; count <= 40; count++) {
            Check.due("byte " + count + " of the draft", x.draft('a'), count);
        }
        Check.badState("byte 41", () -> x.draft('b'));
        Check.badState("byte 41 again", () -> x.draft(27));
        Check.badArgument("a wrong byte 41", () -> x.draft(0));
        Check.badArgument("a wrong byte 41, too great", () -> x.draft(127));
        Check.due("nothing else is changed", Check.all(x), Check.all(new InputrowConsole()));
        x.rule(true, false);
        Check.due("pasted", x.paste(), 40);
        Check.due("the program", Check.taken(x), "a".repeat(40));
        Check.due("the first byte again", x.draft('c'), 1);
    }

    /** b: 1 to 126. */
    private static void draftBytes() {
        for (int b = -2; b <= 130; b++) {
            int added = b;
            InputrowConsole x = new InputrowConsole();
            x.rule(true, false);
            if (b >= 1 && b <= 126) {
                Check.due("draft " + b, x.draft(b), 1);
                Check.due("draft " + b + ", pasted", x.paste(), b == 27 ? 0 : 1);
                Check.due("draft " + b + ": the program", x.take(), b == 27 ? -1 : b);
            } else {
                Check.badArgument("draft " + b, () -> x.draft(added));
                Check.due("draft " + b + ", nothing is pasted", x.paste(), 0);
            }
        }
    }

    /** Pasting types the draft, without 27, which is empty then. */
    private static void pasting() {
        InputrowConsole x = new InputrowConsole();
        Check.due("an empty draft", x.paste(), 0);
        Check.due("nothing is typed by that", Check.all(x), Check.all(new InputrowConsole()));
        Check.draft(x, "#".repeat(40));
        Check.due("27 alone", x.paste(), 0);
        Check.due("empty then", x.draft('a'), 1);
        Check.draft(x, "#b#");
        Check.due("two of four", x.paste(), 2);
        Check.due("the line", x.told(14), 2);
        Check.due("echoed", Check.row(x, 0), "ab..........");
        Check.due("nothing is left", x.paste(), 0);
        InputrowConsole full = new InputrowConsole();
        Check.draft(full, "a".repeat(40));
        Check.due("40 into a line", full.paste(), 40);
        Check.due("30 have room", full.told(14), 30);
        Check.due("10 ring", full.told(10), 10);
    }

    /** With PASTE ESC [ 2 0 0 ~ ahead of it and ESC [ 2 0 1 ~ behind it. */
    private static void pastingWithPaste() {
        String[] drafts = {"", "#", "a", "#a#", "a".repeat(39), "a".repeat(40), "#".repeat(40)};
        for (String text : drafts) {
            InputrowConsole x = Check.with("#[?204h");
            x.rule(true, false);
            Check.draft(x, text);
            String due = "#[200~" + text.replace("#", "") + "#[201~";
            Check.due("PASTE, a draft of " + text.length(), x.paste(), due.length());
            Check.due("PASTE: bytes of " + text.length(), Check.taken(x), due);
            Check.write(x, "#[?204l");
            Check.due("PASTE off", x.paste(), 0);
        }
        InputrowConsole cooked = Check.with("#[?204h");
        Check.draft(cooked, "b".repeat(20));
        Check.due("PASTE, COOKED", cooked.paste(), 32);
        Check.due("the line", cooked.told(14), 30);
        Check.due("two ring", cooked.told(10), 2);
    }

    private static void pastingLines() {
        InputrowConsole x = new InputrowConsole();
        Check.draft(x, "a\n\r\u0004\u0003b\u0015c d e\u0017");
        Check.due("with all that edits", x.paste(), 13);
        Check.due("the program", Check.taken(x), "a\n\n");
        Check.due("ENDs", x.told(16), 1);
        Check.due("INTERRUPTs", x.told(17), 1);
        Check.due("the line", x.told(14), 4);
        InputrowConsole stopping = new InputrowConsole();
        Check.draft(stopping, "a\u0013b\u0011c\u0013d");
        Check.due("with 19 and 17", stopping.paste(), 7);
        Check.due("stopped at last", stopping.told(12) * 10 + stopping.told(13), 11);
        Check.due("what came", Check.row(stopping, 0), "abc.........");
    }

    /** The mouse types, with MOUSE, ESC [ <, the button, ;, the column, ;, the row, both from 1 on, and M. */
    private static void mousePlaces() {
        int[][] sizes = {{2, 4}, {6, 12}, {9, 9}, {10, 10}, {12, 24}};
        for (int[] size : sizes) {
            InputrowConsole x = Check.with(size[0], size[1], "#[?100h");
            x.rule(true, false);
            int[] rows = {0, size[0] - 1};
            int[] columns = {0, size[1] - 1};
            for (int row : rows) {
                for (int column : columns) {
                    for (int button = 0; button <= 2; button++) {
                        String due = "#[<" + button + ";" + (column + 1) + ";" + (row + 1) + "M";
                        String name = size[0] + " of " + size[1] + ": mouse " + button + " at " + row + "," + column;
                        Check.due(name, x.mouse(button, row, column), due.length());
                        Check.due(name + ": bytes", Check.taken(x), due);
                    }
                }
            }
            Check.outOfBounds("a row more of " + size[0], () -> x.mouse(0, size[0], 0));
            Check.outOfBounds("a column more of " + size[1], () -> x.mouse(0, 0, size[1]));
        }
    }

    /** If several exceptions of a throws clause apply, the one that is listed first is thrown; 0 without the mode MOUSE. */
    private static void wrongMouse() {
        for (String codes : new String[] {"", "#[?100h", "#[?100h#[?100l"}) {
            InputrowConsole x = Check.with(codes);
            String before = Check.all(x);
            Check.badArgument("button -1" + codes, () -> x.mouse(-1, 0, 0));
            Check.badArgument("button 3" + codes, () -> x.mouse(3, 5, 11));
            Check.outOfBounds("row -1" + codes, () -> x.mouse(0, -1, 0));
            Check.outOfBounds("row 6" + codes, () -> x.mouse(0, 6, 0));
            Check.outOfBounds("column -1" + codes, () -> x.mouse(0, 0, -1));
            Check.outOfBounds("column 12" + codes, () -> x.mouse(0, 0, 12));
            Check.outOfBounds("row and button" + codes, () -> x.mouse(3, 6, 0));
            Check.outOfBounds("column and button" + codes, () -> x.mouse(-1, 0, 12));
            Check.due("nothing is changed by these", Check.all(x), before);
            Check.due("the mouse" + codes, x.mouse(2, 5, 11), codes.equals("#[?100h") ? 10 : 0);
        }
    }

    /** The program takes a byte: the first one that is there; returns NONE without any. */
    private static void taking() {
        InputrowConsole x = new InputrowConsole();
        Check.due("none at first", x.take(), InputrowConsole.NONE);
        x.type('a');
        Check.due("none while it is in the line", x.take(), InputrowConsole.NONE);
        x.type(10);
        Check.due("the first one", x.take(), (int) 'a');
        Check.due("the last one", x.take(), 10);
        Check.due("none then", x.take(), InputrowConsole.NONE);
        Check.due("none again", x.take(), InputrowConsole.NONE);
        x.rule(true, false);
        int[] edges = {0, 1, 126, 127};
        for (int b : edges) {
            x.type(b);
        }
        for (int b : edges) {
            Check.due("in their order: " + b, x.take(), b);
        }
        Check.due("nothing else is changed by taking", x.told(15), 0);
    }
}
