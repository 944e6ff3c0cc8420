/** Promise 14: cellAnew. */
public final class P14CellAnewTest {
    public static void main(String[] args) {
        InputrowConsole x = Check.with("a#[1mB`");
        Check.outOfBounds("row -1", () -> x.cellAnew(-1, 0));
        Check.outOfBounds("row 6", () -> x.cellAnew(6, 0));
        Check.outOfBounds("column -1", () -> x.cellAnew(0, -1));
        Check.outOfBounds("column 12", () -> x.cellAnew(0, 12));
        Check.due("a sign", x.cellAnew(0, 0), 97);
        Check.due("a wide sign", x.cellAnew(0, 1), 101066);
        Check.due("a tail", x.cellAnew(0, 2), -2);
        Check.due("empty", x.cellAnew(0, 3), 0);
        same("first", x);
        Check.type(x, "typed\u0017 #\u0001");
        same("typed", x);
        x.type(19);
        Check.write(x, "held");
        same("held", x);
        x.type(17);
        same("started", x);
        Check.outOfBounds("column 12 still", () -> x.cellAnew(0, 12));
        x.size(3, 20);
        same("another size", x);
        Check.write(x, "#[5n#[6n\n\n\n#[?47hother#[2;3r\n\n\n");
        same("OTHER", x);
        x.size(4, 6);
        Check.write(x, "#[?47l");
        same("MAIN", x);
        Check.write(x, "half a code #[3");
        same("in a code", x);
        Check.write(x, "Cz");
        same("behind it", x);
        Check.due("the cell itself", x.cell(x.told(0), 5), 1000 + 'z');
        manyBytes();
        Check.end();
    }

    private static void manyBytes() {
        InputrowConsole x = new InputrowConsole();
        for (int i = 0; i < 400; i++) {
            x.code(false, 999, 999, 'H');
        }
        Check.write(x, "#[2;3Hz");
        same("many bytes", x);
        Check.due("the last one of many", x.cellAnew(1, 2), (int) 'z');
    }

    private static void same(String name, InputrowConsole x) {
        for (int row = 0; row < x.told(7); row++) {
            for (int column = 0; column < x.told(8); column++) {
                Check.due(name + ": cellAnew(" + row + ", " + column + ")", x.cellAnew(row, column), x.cell(row, column));
            }
        }
    }
}
