/** Promise 4: type, and the line rule. */
public final class P04TypeTest {
    public static void main(String[] args) {
        wrongBytes();
        cooked();
        takingAway();
        limits();
        raw();
        echo();
        stopping();
        Check.end();
    }

    private static void wrongBytes() {
        InputrowConsole x = new InputrowConsole();
        Check.badArgument("type(-1)", () -> x.type(-1));
        Check.badArgument("type(128)", () -> x.type(128));
        Check.due("type(0)", x.type(0), 1);
        Check.due("echo of 0", Check.row(x, 0), "^@..........");
        Check.due("type(127)", x.type(127), 0);
    }

    private static void cooked() {
        InputrowConsole x = new InputrowConsole();
        Check.due("a", x.type('a'), 1);
        Check.due("b", x.type('b'), 2);
        Check.due("nothing for the program", x.take(), -1);
        Check.due("10", x.type(10), 0);
        Check.due("echo", Check.row(x, 0), "ab..........");
        Check.due("13 and 10 are echoed", Check.cursor(x), "1,0");
        Check.due("the line and 10", Check.taken(x), "ab\n");
        Check.type(x, "c\r");
        Check.due("13 is 10", Check.taken(x), "c\n");
        Check.type(x, "de");
        Check.due("4", x.type(4), 0);
        Check.due("the line without 10", Check.taken(x), "de");
        Check.due("no END", x.told(16), 0);
        x.type(4);
        Check.due("END", x.told(16), 1);
        Check.type(x, "fg");
        Check.due("3", x.type(3), 0);
        Check.due("the line is gone", Check.taken(x), "");
        Check.due("INTERRUPT", x.told(17), 1);
        Check.due("these echo nothing", Check.row(x, 2), "defg........");
        Check.type(x, "\u0001\u001f");
        Check.due("below 32", Check.row(x, 2), "defg^A<^_...");
        x.type(10);
        Check.due("below 32 to the program", Check.taken(x), "\u0001\u001f\n");
        Check.due("an empty line", x.type(10), 0);
        Check.due("is 10", Check.taken(x), "\n");
    }

    private static void takingAway() {
        InputrowConsole x = new InputrowConsole();
        Check.type(x, "ab");
        Check.due("127", x.type(127), 1);
        Check.due("erased", Check.row(x, 0), "a ..........");
        Check.due("cursor", Check.cursor(x), "0,1");
        x.type(31);
        Check.due("127 of one below 32", x.type(127), 1);
        Check.due("erased twice", Check.row(x, 0), "a  .........");
        Check.due("cursor then", Check.cursor(x), "0,1");
        x.type(127);
        Check.due("127 of nothing", x.type(127), 0);
        Check.due("cursor at the beginning", Check.cursor(x), "0,0");
        Check.type(x, "ab cd  ");
        Check.due("23", x.type(23), 3);
        Check.due("cursor behind the blank", Check.cursor(x), "0,3");
        Check.due("23 again", x.type(23), 0);
        Check.due("23 of nothing", x.type(23), 0);
        Check.type(x, "  ");
        Check.due("23 of blanks", x.type(23), 0);
        Check.type(x, "ab\tc");
        Check.due("a tab is no blank", x.type(23), 0);
        Check.due("its echo has a wide sign", Check.cursor(x), "0,1");
        x.write(13);
        Check.type(x, "a b\u001ec");
        Check.due("21", x.type(21), 0);
        Check.due("cursor", Check.cursor(x), "0,0");
        x.type(10);
        Check.due("nothing is left", Check.taken(x), "\n");
    }

    private static void limits() {
        InputrowConsole x = new InputrowConsole();
        for (int i = 1; i <= 30; i++) {
            Check.due("byte " + i, x.type('a'), i);
        }
        Check.due("no room", x.type('b'), 30);
        Check.due("rings", x.told(10), 1);
        Check.due("no echo", x.cell(2, 6), 0);
        x.type(1);
        Check.due("rings again", x.told(10), 2);
        Check.due("127 makes room", x.type(127), 29);
        Check.due("room", x.type('c'), 30);
        x.type(10);
        Check.due("30 and 10", Check.taken(x), "a".repeat(29) + "c\n");
        for (int i = 0; i < 7; i++) {
            Check.type(x, "b".repeat(30) + "\n");
        }
        Check.due("200 for the program", x.told(15), 200);
        Check.due("what has no room is lost", Check.taken(x).length(), 200);
    }

    private static void raw() {
        InputrowConsole x = new InputrowConsole();
        x.rule(true, true);
        Check.due("a", x.type('a'), 0);
        Check.due("3", x.type(3), 0);
        Check.type(x, "\u0004\u0011\u0013\u0015\u0017\u007f\r\n");
        Check.due("each byte", Check.taken(x), "a\u0003\u0004\u0011\u0013\u0015\u0017\u007f\r\n");
        Check.due("no END", x.told(16), 0);
        Check.due("no INTERRUPT", x.told(17), 0);
        Check.due("not stopped", x.told(12), 0);
        Check.due("echo as it is", Check.cursor(x), "1,0");
        Check.type(x, "#[2;4Hb");
        Check.due("a code is echoed", Check.row(x, 1), "...b........");
        Check.taken(x);
        Check.type(x, "#[5n");
        Check.due("the answer is behind it", Check.taken(x), "#[5n#[0n");
    }

    private static void echo() {
        InputrowConsole x = new InputrowConsole();
        x.rule(false, false);
        Check.type(x, "ab\u007f\n");
        Check.due("no echo", Check.row(x, 0), "............");
        Check.due("no echo of 10", Check.cursor(x), "0,0");
        Check.due("the line", Check.taken(x), "a\n");
        Check.type(x, "c".repeat(31));
        Check.due("no ring", x.told(10), 0);
        x.rule(true, false);
        x.type('d');
        Check.due("no echo if RAW", Check.row(x, 0), "............");
    }

    private static void stopping() {
        InputrowConsole x = new InputrowConsole();
        Check.due("19", x.type(19), 0);
        Check.due("stopped", x.told(12), 1);
        x.type(19);
        Check.due("stopped again", x.told(12), 1);
        Check.type(x, "ab");
        x.write('c');
        Check.due("the echo is held", x.told(13), 3);
        Check.due("nothing came", Check.row(x, 0), "............");
        Check.due("17", x.type(17), 2);
        Check.due("started", x.told(12), 0);
        Check.due("all came", Check.row(x, 0), "abc.........");
        Check.due("none is held", x.told(13), 0);
        x.type(17);
        Check.due("started again", x.told(12), 0);
        x.type(19);
        for (int i = 0; i < 98; i++) {
            x.write('d');
        }
        x.type('e');
        Check.due("99", x.told(13), 99);
        x.type(1);
        Check.due("half of the echo", x.told(13), 100);
        Check.due("the line has it", x.told(14), 4);
        x.type(127);
        Check.due("no room for 8, 32, 8", x.told(13), 100);
        x.type(17);
        Check.due("the last of them", x.cell(5, 6), (int) '^');
        InputrowConsole y = new InputrowConsole();
        Check.type(y, "\u0013a\n");
        Check.due("the program has it at once", Check.taken(y), "a\n");
        y.rule(true, true);
        y.type(17);
        Check.due("RAW does not start it", y.told(12), 1);
        Check.due("it is held", y.told(13), 4);
        InputrowConsole z = new InputrowConsole();
        z.type(19);
        Check.write(z, "#[5n");
        Check.due("no answer yet", z.told(15), 0);
        z.type(17);
        Check.due("the answer then", Check.taken(z), "#[0n");
    }
}
