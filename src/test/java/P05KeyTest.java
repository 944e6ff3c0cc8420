/** Promise 5: key. */
public final class P05KeyTest {
    public static void main(String[] args) {
        wrongArguments();
        plain();
        withKeys();
        withModifiers();
        cooked();
        Check.end();
    }

    private static void wrongArguments() {
        InputrowConsole x = new InputrowConsole();
        Check.badArgument("key -1", () -> x.key(-1, 0));
        Check.badArgument("key 7", () -> x.key(7, 0));
        Check.badArgument("modifiers -1", () -> x.key(InputrowConsole.UP, -1));
        Check.badArgument("modifiers 8", () -> x.key(InputrowConsole.UP, 8));
        Check.due("nothing typed", x.told(14), 0);
    }

    private static void all(String name, String before, int modifiers, String[] due) {
        for (int key = InputrowConsole.UP; key <= InputrowConsole.DELETE; key++) {
            InputrowConsole x = Check.with(before);
            x.rule(true, false);
            Check.due(name + ": count of " + key, x.key(key, modifiers), due[key].length());
            Check.due(name + ": bytes of " + key, Check.taken(x), due[key]);
        }
    }

    private static void plain() {
        all("plain", "", 0, new String[] {"#[A", "#[B", "#[C", "#[D", "#[H", "#[F", "#[3~"});
    }

    private static void withKeys() {
        all("KEYS", "#[?1h", 0, new String[] {"#OA", "#OB", "#OC", "#OD", "#OH", "#OF", "#[3~"});
        all("KEYS off", "#[?1h#[?1l", 0, new String[] {"#[A", "#[B", "#[C", "#[D", "#[H", "#[F", "#[3~"});
    }

    private static void withModifiers() {
        for (int m = 1; m <= 7; m++) {
            String head = "#[1;" + (m + 1);
            String[] due = {head + "A", head + "B", head + "C", head + "D", head + "H", head + "F", "#[3;" + (m + 1) + "~"};
            all("modifiers " + m, "", m, due);
            all("KEYS and modifiers " + m, "#[?1h", m, due);
        }
    }

    private static void cooked() {
        InputrowConsole x = new InputrowConsole();
        Check.due("count", x.key(InputrowConsole.RIGHT, 0), 3);
        Check.due("in the line", x.told(14), 3);
        Check.due("echo", Check.row(x, 0), "^[[C<.......");
        InputrowConsole y = new InputrowConsole();
        y.rule(true, true);
        y.key(InputrowConsole.RIGHT, 0);
        Check.due("RAW echo", Check.cursor(y), "0,1");
        for (int i = 0; i < 9; i++) {
            x.key(InputrowConsole.DELETE, 0);
        }
        Check.due("a full line", x.told(14), 30);
        Check.due("9 have no room", x.told(10), 9);
    }
}
