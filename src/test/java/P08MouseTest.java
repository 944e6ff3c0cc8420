/** Promise 8: mouse. */
public final class P08MouseTest {
    public static void main(String[] args) {
        InputrowConsole x = Check.with("#[?100h");
        x.rule(true, false);
        Check.outOfBounds("row -1", () -> x.mouse(0, -1, 0));
        Check.outOfBounds("row 6", () -> x.mouse(0, 6, 0));
        Check.outOfBounds("column -1", () -> x.mouse(0, 0, -1));
        Check.outOfBounds("column 12", () -> x.mouse(0, 0, 12));
        Check.badArgument("button -1", () -> x.mouse(-1, 0, 0));
        Check.badArgument("button 3", () -> x.mouse(3, 0, 0));
        Check.outOfBounds("both: the first one listed", () -> x.mouse(3, 6, 0));
        Check.due("nothing typed", x.told(15), 0);
        Check.due("mouse(0, 0, 0)", x.mouse(0, 0, 0), 9);
        Check.due("its bytes", Check.taken(x), "#[<0;1;1M");
        Check.due("mouse(2, 5, 11)", x.mouse(2, 5, 11), 10);
        Check.due("its bytes", Check.taken(x), "#[<2;12;6M");
        x.size(12, 24);
        Check.due("mouse(1, 11, 23)", x.mouse(1, 11, 23), 11);
        Check.due("its bytes", Check.taken(x), "#[<1;24;12M");
        Check.write(x, "#[?100l");
        Check.due("off", x.mouse(1, 11, 23), 0);
        Check.outOfBounds("off, and no row", () -> x.mouse(0, 12, 0));
        Check.badArgument("off, and no button", () -> x.mouse(3, 0, 0));
        Check.due("nothing typed", x.told(15), 0);
        InputrowConsole y = Check.with("#[?100h");
        Check.due("COOKED", y.mouse(0, 1, 2), 9);
        Check.due("in the line", y.told(14), 9);
        Check.due("echo", Check.row(y, 0), "^[[<0;3;2M<.");
        Check.end();
    }
}
