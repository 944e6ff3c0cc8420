/** Promise 9: rule. */
public final class P09RuleTest {
    public static void main(String[] args) {
        InputrowConsole x = new InputrowConsole();
        Check.type(x, "abc");
        Check.due("COOKED again", x.rule(false, true), false);
        Check.due("the line stays", x.told(14), 3);
        Check.due("was COOKED", x.rule(true, true), false);
        Check.due("the line is empty", x.told(14), 0);
        Check.due("the line is for the program", Check.taken(x), "abc");
        Check.due("nothing more is echoed", Check.cursor(x), "0,3");
        Check.due("was RAW", x.rule(true, false), true);
        x.type('d');
        Check.due("RAW", Check.taken(x), "d");
        Check.due("without ECHO", Check.cursor(x), "0,3");
        Check.due("was RAW, COOKED then", x.rule(false, true), true);
        x.type('e');
        Check.due("COOKED", x.take(), -1);
        Check.due("with ECHO", Check.row(x, 0), "abce........");
        Check.due("without ECHO", x.rule(false, false), false);
        x.type('f');
        Check.due("no echo", Check.row(x, 0), "abce........");
        Check.due("the line", x.told(14), 2);
        Check.due("was COOKED", x.rule(false, false), false);
        InputrowConsole y = new InputrowConsole();
        y.rule(true, false);
        for (int i = 0; i < 190; i++) {
            y.type('a');
        }
        y.rule(false, false);
        Check.type(y, "b".repeat(30));
        y.rule(true, false);
        Check.due("200 for the program", Check.taken(y), "a".repeat(190) + "b".repeat(10));
        Check.end();
    }
}
