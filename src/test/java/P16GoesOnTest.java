/** Promise 16: goesOn. */
public final class P16GoesOnTest {
    public static void main(String[] args) {
        InputrowConsole x = Check.with(2, 4, "abcdefghi");
        Check.due("row 0", x.goesOn(0), true);
        Check.due("row 1", x.goesOn(1), false);
        Check.due("the latest one", x.goesOn(-1), true);
        Check.outOfBounds("row 2", () -> x.goesOn(2));
        Check.outOfBounds("row -2", () -> x.goesOn(-2));
        Check.outOfBounds("least int", () -> x.goesOn(Integer.MIN_VALUE));
        Check.outOfBounds("most int", () -> x.goesOn(Integer.MAX_VALUE));
        Check.write(x, "#[2Jz\r\n");
        Check.due("not the latest one", x.goesOn(-1), false);
        Check.due("the one before", x.goesOn(-2), true);
        Check.write(x, "#[?47h");
        Check.due("OTHER", x.goesOn(0), false);
        Check.due("the history, too", x.goesOn(-2), true);
        Check.write(x, "#[1;1Habcde");
        Check.due("OTHER goes on", x.goesOn(0), true);
        Check.write(x, "#[1;1H#M");
        Check.due("OTHER does not end the history", x.goesOn(-2), true);
        InputrowConsole ends = Check.with(3, 4, "abcde");
        Check.write(ends, "#[1;2H#[K");
        Check.due("K", ends.goesOn(0), false);
        Check.write(ends, "#[1;4Hxyz");
        Check.due("drawn again", ends.goesOn(0), true);
        Check.write(ends, "#[1;1Hxyzx");
        Check.due("overwritten", ends.goesOn(0), true);
        InputrowConsole wide = Check.with(3, 4, "#[1;4HA");
        Check.due("by a wide sign", Check.rows(wide), "....+ A<.. ....");
        Check.outOfBounds("no history", () -> wide.goesOn(-1));
        Check.end();
    }
}
