/** Far-off arguments for each call: the exception is the document's own, and nothing is changed by the call. */
public final class WrongInputsTest {
    private static final int[] FAR = {Integer.MIN_VALUE, Integer.MIN_VALUE + 1, -1000000, -1, 1000, 1000000,
        Integer.MAX_VALUE - 1, Integer.MAX_VALUE};
    private static final String ARGUMENT = "IllegalArgumentException";
    private static final String BOUNDS = "IndexOutOfBoundsException";

    private static InputrowConsole x;
    private static String before;

    public static void main(String[] args) {
        x = Check.with(3, 6, "#]title\u0007#[?100h#[2mabcDe`fghijklmnop\r\nqRs\r\nt#[2;3r#[3;4H#7#[2;5Hu#[");
        Check.type(x, "line\n\u0013");
        Check.type(x, "rest");
        Check.write(x, "held");
        Check.draft(x, "draft");
        before = Check.all(x);
        for (int far : FAR) {
            written(far);
            asked(far);
        }
        afterThrowing();
        Check.end();
    }

    private static void due(String call, String exception, Check.Call made) {
        Check.dueThrow(call, exception, made);
        Check.due("nothing is changed by " + call, Check.all(x), before);
    }

    private static void written(int far) {
        due("write " + far, ARGUMENT, () -> x.write(far));
        due("code one " + far, ARGUMENT, () -> x.code(true, far, 0, 'A'));
        due("code two " + far, ARGUMENT, () -> x.code(false, 0, far, 'A'));
        due("code b " + far, ARGUMENT, () -> x.code(false, 0, 0, far));
        due("type " + far, ARGUMENT, () -> x.type(far));
        due("key " + far, ARGUMENT, () -> x.key(far, 0));
        due("modifiers " + far, ARGUMENT, () -> x.key(0, far));
        due("draft " + far, ARGUMENT, () -> x.draft(far));
        due("mouse button " + far, ARGUMENT, () -> x.mouse(far, 0, 0));
        due("mouse row " + far, BOUNDS, () -> x.mouse(0, far, 0));
        due("mouse column " + far, BOUNDS, () -> x.mouse(far, 0, far));
        due("size rows " + far, ARGUMENT, () -> x.size(far, 12));
        due("size columns " + far, ARGUMENT, () -> x.size(6, far));
    }

    private static void asked(int far) {
        due("cell row " + far, BOUNDS, () -> x.cell(far, 0));
        due("cell column " + far, BOUNDS, () -> x.cell(0, far));
        due("cellAnew row " + far, BOUNDS, () -> x.cellAnew(far, 0));
        due("cellAnew column " + far, BOUNDS, () -> x.cellAnew(0, far));
        due("past row " + far, BOUNDS, () -> x.past(far, 0));
        due("past column " + far, BOUNDS, () -> x.past(0, far));
        due("goesOn " + far, far == -1 ? "answer true" : BOUNDS, () -> x.goesOn(far));
        due("title " + far, BOUNDS, () -> x.title(far));
        due("least " + far, BOUNDS, () -> x.least(far));
        due("told " + far, ARGUMENT, () -> x.told(far));
    }

    /** All goes on as if the wrong calls had not been. */
    private static void afterThrowing() {
        Check.due("the draft", x.draft('s'), 6);
        Check.due("the line", x.told(14), 4);
        Check.due("started", x.type(17), 4);
        Check.due("the program", Check.taken(x), "line\n");
        Check.due("pasted", x.paste(), 6);
        Check.due("the line then", x.told(14), 10);
    }
}
