/** Promise 6: draft. */
public final class P06DraftTest {
    public static void main(String[] args) {
        InputrowConsole x = new InputrowConsole();
        Check.badArgument("draft(0)", () -> x.draft(0));
        Check.badArgument("draft(127)", () -> x.draft(127));
        Check.badArgument("draft(-1)", () -> x.draft(-1));
        Check.due("draft(1)", x.draft(1), 1);
        Check.due("draft(126)", x.draft(126), 2);
        Check.due("draft(27) counts", x.draft(27), 3);
        for (int i = 4; i <= 40; i++) {
            Check.due("byte " + i, x.draft('a'), i);
        }
        Check.badState("draft when it has 40", () -> x.draft('b'));
        Check.badArgument("a wrong byte when it has 40", () -> x.draft(127));
        Check.due("nothing typed", x.told(14), 0);
        Check.due("nothing drawn", x.cell(0, 0), 0);
        x.rule(true, false);
        Check.due("paste()", x.paste(), 39);
        Check.due("what it had", Check.taken(x), "\u0001~" + "a".repeat(37));
        Check.due("room again", x.draft('c'), 1);
        Check.end();
    }
}
