/** Promise 12: draw. */
public final class P12DrawTest {
    public static void main(String[] args) {
        InputrowConsole x = new InputrowConsole();
        Check.due("nothing to draw", x.draw(), 0);
        Check.write(x, "abc\r\n#[1mdef");
        Check.due("two rows", x.draw(), 9 + 13);
        Check.due("like then", x.draw(), 0);
        Check.due("each row is like", x.least(0) + x.least(1), 0);
        Check.write(x, "#[1;2H#[0mx");
        Check.due("one cell", x.draw(), 7);
        Check.write(x, "#[?47h");
        Check.due("erasing two rows", x.draw(), 18);
        Check.write(x, "#[1;1Hyz#[?47l");
        Check.due("MAIN once more", x.draw(), 9 + 13);
        Check.write(x, "#[2J#[HA`B");
        Check.due("wide signs and a mark, and a row erased", x.draw(), 6 + 2 + 1 + 9);
        x.size(4, 8);
        Check.due("all of it behind size()", x.draw(), 9);
        Check.write(x, "#[99;99Hz#[5;1H");
        Check.due("the last cell", x.draw(), 7);
        Check.due("drawing does not change the cursor", Check.cursor(x), "3,0");
        Check.write(x, "#[T");
        Check.due("scrolled", x.draw(), 9 + 9 + 7);
        Check.end();
    }
}
