/** Promise 13: cell. */
public final class P13CellTest {
    public static void main(String[] args) {
        InputrowConsole x = Check.with("a#[1;2mb``#[4mC`");
        Check.outOfBounds("row -1", () -> x.cell(-1, 0));
        Check.outOfBounds("row 6", () -> x.cell(6, 0));
        Check.outOfBounds("column -1", () -> x.cell(0, -1));
        Check.outOfBounds("column 12", () -> x.cell(0, 12));
        Check.outOfBounds("far", () -> x.cell(Integer.MAX_VALUE, Integer.MIN_VALUE));
        Check.due("a sign", x.cell(0, 0), 97);
        Check.due("attribute and marks", x.cell(0, 1), 203098);
        Check.due("a wide sign", x.cell(0, 2), 111067);
        Check.due("a tail", x.cell(0, 3), -2);
        Check.due("empty", x.cell(0, 4), 0);
        Check.due("the last one", x.cell(5, 11), 0);
        x.size(8, 5);
        Check.outOfBounds("column 5 of 5", () -> x.cell(0, 5));
        Check.due("row 7 of 8", x.cell(7, 4), 0);
        Check.outOfBounds("row 8 of 8", () -> x.cell(8, 0));
        Check.write(x, "#[?47h");
        Check.due("OTHER", x.cell(0, 0), 0);
        Check.end();
    }
}
