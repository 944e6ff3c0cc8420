/** Promise 1: a new object. */
public final class P01NewObjectTest {
    public static void main(String[] args) {
        InputrowConsole x = new InputrowConsole();
        Check.due("rows()", Check.rows(x),
                "............ ............ ............ ............ ............ ............");
        int[] due = {0, 0, 0, 0, 0, 0, 5, 6, 12, 0, 0, 0, 0, 0, 0, 0, 0, 0, 1, 0, 4};
        for (int what = 0; what < due.length; what++) {
            Check.due("told(" + what + ")", x.told(what), due[what]);
        }
        Check.due("take()", x.take(), InputrowConsole.NONE);
        Check.due("draw()", x.draw(), 0);
        Check.due("paste()", x.paste(), 0);
        Check.write(x, "#[?47h");
        Check.due("OTHER", Check.rows(x),
                "............ ............ ............ ............ ............ ............");
        rule();
        twoObjects();
        Check.end();
    }

    private static void rule() {
        InputrowConsole x = new InputrowConsole();
        Check.due("COOKED: type(a)", x.type('a'), 1);
        Check.due("COOKED: told(15)", x.told(15), 0);
        Check.due("ECHO", Check.row(x, 0), "a...........");
        Check.due("rule() the first time", x.rule(true, true), false);
    }

    private static void twoObjects() {
        InputrowConsole x = Check.with("abc#]t\u0007");
        InputrowConsole y = new InputrowConsole();
        Check.due("another object", Check.row(y, 0), "............");
        Check.due("another title", Check.title(y), "");
        Check.due("the first object", Check.row(x, 0), "abc.........");
    }
}
