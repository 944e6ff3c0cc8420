/** An object is used for at most 512 calls: the dearest ones, 512 of each, and what they answer at the end. */
public final class CallsEdgesTest {
    private static final int CALLS = 512;

    public static void main(String[] args) {
        codes();
        signs();
        sizes();
        sizesWithText();
        scrolls();
        pastes();
        echoes();
        playedAgain();
        draws();
        answers();
        counts();
        Check.end();
    }

    private static void codes() {
        InputrowConsole x = new InputrowConsole();
        for (int i = 1; i < CALLS - 1; i++) {
            x.code(true, 999, 999, 'h');
        }
        Check.due("call 511", x.write('a'), 0);
        Check.due("call 512, played again", x.cellAnew(0, 0), (int) 'a');
    }

    private static void signs() {
        InputrowConsole x = Check.with(2, 4, "");
        for (int i = 1; i < CALLS - 1; i++) {
            x.write('a' + i % 26);
        }
        Check.due("rows of the history", x.told(9), 40);
        Check.due("call 512", x.cellAnew(1, 1), 'a' + 510 % 26);
    }

    private static void sizes() {
        InputrowConsole x = Check.with("a");
        for (int i = 1; i < CALLS - 2; i++) {
            Check.due("size " + i, x.size(2 + i % 11, 4 + i % 21), 0);
        }
        Check.due("the sign", x.cell(0, 0), (int) 'a');
        Check.due("call 512", x.cellAnew(0, 0), (int) 'a');
    }

    private static void sizesWithText() {
        String signs = "abcdefghijklmnopqrstuvwxyzabcdefghijklmnopqrst";
        InputrowConsole x = Check.with(signs);
        int last = CALLS - 2 * signs.length();
        for (int i = signs.length() + 1; i < last; i++) {
            x.size(2 + i % 11, 4 + i % 21);
        }
        x.size(6, 12);
        for (int i = 0; i < signs.length(); i++) {
            Check.due("the sign " + i, x.cell(i / 12, i % 12), (int) signs.charAt(i));
        }
    }

    private static void scrolls() {
        InputrowConsole x = new InputrowConsole();
        for (int i = 0; i < CALLS - 1; i++) {
            x.code(false, 999, 0, i % 2 == 0 ? 'S' : 'T');
        }
        Check.due("call 512", x.told(9), 40);
    }

    private static void pastes() {
        InputrowConsole x = Check.with("#[?204h");
        x.rule(true, true);
        int last = 0;
        for (int i = 0; i < CALLS - 11; i++) {
            last = x.paste();
        }
        Check.due("12 each", last, 12);
        Check.due("call 511", x.told(15), 200);
        Check.due("call 512", x.cellAnew(0, 0), 0);
    }

    private static void echoes() {
        InputrowConsole x = new InputrowConsole();
        int calls = 0;
        for (int round = 0; round < 16; round++) {
            for (int i = 0; i < 30; i++) {
                Check.due("a byte below 32", x.type(1), i + 1);
                calls++;
            }
            Check.due("all taken away", x.type(21), 0);
            calls++;
        }
        Check.due("calls", calls, 496);
        for (int row = 0; row < 6; row++) {
            Check.due("as played again", x.cellAnew(row, 0), x.cell(row, 0));
        }
        Check.due("room for one more", x.type(1), 1);
    }

    private static void playedAgain() {
        InputrowConsole x = new InputrowConsole();
        for (int i = 0; i < CALLS / 2; i++) {
            x.code(false, 1, 1, 'H');
            Check.due("played again " + i, x.cellAnew(5, 11), 0);
        }
    }

    private static void draws() {
        InputrowConsole x = Check.with("a");
        Check.due("the first one", x.draw(), 7);
        for (int i = 2; i < CALLS; i++) {
            Check.due("draw " + i, x.draw(), 0);
        }
    }

    private static void answers() {
        InputrowConsole x = new InputrowConsole();
        for (int i = 0; i < CALLS - 1; i++) {
            x.code(false, 6, 0, 'n');
        }
        Check.due("200 for the program", x.told(15), 200);
        InputrowConsole taken = new InputrowConsole();
        for (int i = 0; i < CALLS / 8; i++) {
            taken.code(false, 6, 0, 'n');
            Check.due("each answer", Check.taken(taken), "#[1;1R");
        }
    }

    private static void counts() {
        InputrowConsole x = new InputrowConsole();
        for (int i = 0; i < 170; i++) {
            x.write(7);
            x.type(3);
            x.type(4);
        }
        Check.due("rings", x.told(10), 170);
        Check.due("ENDs and INTERRUPTs", x.told(16) * 1000 + x.told(17), 170170);
    }
}
