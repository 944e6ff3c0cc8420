/** Promise 18: least. */
public final class P18LeastTest {
    public static void main(String[] args) {
        InputrowConsole x = new InputrowConsole();
        Check.outOfBounds("row -1", () -> x.least(-1));
        Check.outOfBounds("row 6", () -> x.least(6));
        Check.due("like", x.least(0), 0);
        signs();
        attributes();
        passing();
        erasing();
        wideSigns();
        Check.end();
    }

    private static int least(String drawn, String then) {
        InputrowConsole x = Check.with(drawn);
        x.draw();
        Check.write(x, then);
        int least = x.least(0);
        Check.due("draw() behind " + drawn + then, x.draw(), least);
        Check.due("least() then", x.least(0), 0);
        return least;
    }

    private static void signs() {
        Check.due("one sign", least("", "a"), 7);
        Check.due("far behind", least("", "#[1;12Ha"), 7);
        Check.due("three signs", least("", "abc"), 9);
        Check.due("a blank is a sign", least("", " "), 7);
        Check.due("marks", least("", "a`b``"), 6 + 2 + 3);
        Check.due("only a mark more", least("ab", "`"), 8);
        Check.due("the same sign again", least("abc", "\rabc"), 0);
    }

    private static void attributes() {
        Check.due("one attribute", least("", "#[1mabc"), 6 + 4 + 3);
        Check.due("there and back", least("", "a#[1mb#[mc"), 6 + 1 + 5 + 5);
        Check.due("two attributes", least("", "#[1ma#[2mb"), 6 + 5 + 5);
        Check.due("an empty cell has the attribute 0", least("", "#[1ma#[1;3Hb"), 6 + 5 + 4 + 1);
        Check.due("passing does not change it", least("  x", "#[1m#[1;2Hb#[1;4Hc"), 6 + 5 + 4 + 1);
        Check.due("only the attribute", least("abc", "#[3m\rabc"), 6 + 4 + 3);
    }

    private static void passing() {
        Check.due("three like ones: written", least("abcdefgh", "\rx#[1;5Hy"), 6 + 5);
        Check.due("four like ones", least("abcdefgh", "\rx#[1;6Hy"), 6 + 6);
        Check.due("five like ones: passed", least("abcdefgh", "\rx#[1;7Hy"), 6 + 1 + 4 + 1);
        Check.due("like ones with an attribute", least("#[1mabcd#[m", "\rx#[1;4Hy"), 6 + 1 + 4 + 1);
        Check.due("like ones with marks", least("ab``c``d", "\rx#[1;4Hy"), 6 + 1 + 4 + 1);
        Check.due("like ones ahead", least("abcdefgh", "#[1;8Hx"), 7);
        Check.due("like ones behind", least("abcdefgh", "\rx"), 7);
    }

    private static void erasing() {
        Check.due("one cell", least("a", "#[2K"), 7);
        Check.due("three cells", least("abc", "#[2K"), 9);
        Check.due("all cells", least("abcdefghijkl", "#[2K"), 9);
        Check.due("the end", least("abcdefghijkl", "#[1;2H#[K"), 9);
        Check.due("written and erased", least("abcdefgh", "\rx#[K"), 6 + 1 + 3);
        Check.due("empty ones written", least("abc", "\rx#[2X#[1;4Hy"), 6 + 4);
        Check.due("empty ones behind an attribute", least("ab", "#[1m\rx#[K"), 6 + 5 + 3);
        Check.due("not to the end", least("abcdefgh", "\r#[6X"), 6 + 6);
    }

    private static void wideSigns() {
        Check.due("a wide sign", least("", "A"), 7);
        Check.due("two of them", least("", "AB"), 8);
        Check.due("marks", least("", "A``"), 9);
        Check.due("attribute", least("", "#[4mA"), 11);
        Check.due("passed with its tail", least("abCDEfg", "\rx#[1;10Hy"), 6 + 1 + 4 + 1);
        Check.due("instead of two", least("ab", "\rC"), 7);
        Check.due("two instead of one", least("C", "\rab"), 8);
        Check.due("erased", least("ABC", "#[2K"), 9);
        Check.due("one column further", least("A", "\r A"), 8);
    }
}
