/** Promise 19: told. */
public final class P19ToldTest {
    public static void main(String[] args) {
        InputrowConsole x = new InputrowConsole();
        Check.badArgument("told(-1)", () -> x.told(-1));
        Check.badArgument("told(21)", () -> x.told(21));
        Check.badArgument("told(least int)", () -> x.told(Integer.MIN_VALUE));
        all("one", one(), new int[] {1, 11, 1, 2, 5, 1, 3, 6, 12, 2, 2, 0, 1, 3, 2, 1, 1, 1, 0, 2, -1});
        all("another", another(), new int[] {1, 1, 0, 3, 0, 0, 1, 2, 8, 0, 0, 1, 0, 0, 0, 6, 0, 0, 1, 0, 4});
        Check.end();
    }

    private static void all(String name, InputrowConsole x, int[] due) {
        for (int what = 0; what < due.length; what++) {
            Check.due(name + ": told(" + what + ")", x.told(what), due[what]);
        }
    }

    private static InputrowConsole one() {
        InputrowConsole x = Check.with("\u0007\u0007#]ti\u0007#[?25l");
        x.rule(true, false);
        x.type('p');
        x.rule(false, false);
        x.type(4);
        x.type(3);
        x.rule(false, true);
        Check.write(x, "#[2S#[2;4r#[1;3m#[2;1Habcdefghijkl#[");
        x.type(19);
        Check.type(x, "qr");
        x.write('s');
        return x;
    }

    private static InputrowConsole another() {
        InputrowConsole x = new InputrowConsole();
        x.size(2, 8);
        Check.write(x, "#[?47h#[2;2H#[6n#]");
        return x;
    }
}
