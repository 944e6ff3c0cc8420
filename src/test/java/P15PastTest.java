/** Promise 15: past. */
public final class P15PastTest {
    public static void main(String[] args) {
        InputrowConsole x = Check.with(2, 4, "");
        Check.outOfBounds("none yet", () -> x.past(0, 0));
        Check.write(x, "#[2ma`B\r\n#[mcd\r\ne\r\nf");
        Check.due("rows", x.told(9), 2);
        Check.outOfBounds("row -1", () -> x.past(-1, 0));
        Check.outOfBounds("row 2", () -> x.past(2, 0));
        Check.outOfBounds("column -1", () -> x.past(0, -1));
        Check.outOfBounds("column 4", () -> x.past(0, 4));
        Check.due("a sign", x.past(0, 0), 102097);
        Check.due("a wide sign", x.past(0, 1), 2066);
        Check.due("a tail", x.past(0, 2), -2);
        Check.due("empty", x.past(0, 3), 0);
        Check.due("the latest one", x.past(1, 1), (int) 'd');
        x.size(2, 10);
        Check.due("a column of the screen", x.past(0, 9), 0);
        Check.outOfBounds("column 10", () -> x.past(0, 10));
        Check.write(x, "#[?47h");
        Check.due("also while OTHER is shown", x.past(1, 0), (int) 'c');
        Check.write(x, "#[3J");
        Check.outOfBounds("none then", () -> x.past(0, 0));
        Check.end();
    }
}
