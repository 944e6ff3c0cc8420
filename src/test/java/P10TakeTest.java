/** Promise 10: take. */
public final class P10TakeTest {
    public static void main(String[] args) {
        InputrowConsole x = new InputrowConsole();
        Check.due("none", x.take(), InputrowConsole.NONE);
        Check.type(x, "ab\n");
        Check.due("first", x.take(), (int) 'a');
        Check.due("two are left", x.told(15), 2);
        Check.type(x, "c\n");
        Check.due("second", x.take(), (int) 'b');
        Check.due("10", x.take(), 10);
        Check.due("the next line", x.take(), (int) 'c');
        Check.due("its 10", x.take(), 10);
        Check.due("none again", x.take(), InputrowConsole.NONE);
        Check.due("still none", x.told(15), 0);
        x.rule(true, false);
        x.type(0);
        Check.due("a byte 0", x.take(), 0);
        ring();
        Check.end();
    }

    private static void ring() {
        InputrowConsole x = new InputrowConsole();
        x.rule(true, false);
        int taken = 0;
        for (int i = 0; i < 250; i++) {
            x.type(i % 128);
            if (i % 5 == 4) {
                Check.due("byte " + taken, x.take(), taken % 128);
                taken++;
            }
        }
        Check.due("the last byte had no room", x.told(15), 199);
        Check.due("the next one", x.take(), taken % 128);
    }
}
