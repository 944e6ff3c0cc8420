/** Promise 7: paste. */
public final class P07PasteTest {
    public static void main(String[] args) {
        InputrowConsole x = new InputrowConsole();
        Check.due("nothing", x.paste(), 0);
        Check.draft(x, "a#b\nc");
        Check.due("without 27", x.paste(), 4);
        Check.due("typed", Check.taken(x), "ab\n");
        Check.due("the rest in the line", x.told(14), 1);
        Check.due("echoed", Check.row(x, 0), "ab..........");
        Check.due("echoed, too", Check.row(x, 1), "c...........");
        Check.due("empty then", x.paste(), 0);
        bracketed();
        modesMeanwhile();
        stopped();
        Check.end();
    }

    private static void bracketed() {
        InputrowConsole x = Check.with("#[?204h");
        x.rule(true, false);
        Check.due("an empty draft", x.paste(), 12);
        Check.due("its bytes", Check.taken(x), "#[200~#[201~");
        Check.draft(x, "x#y");
        Check.due("a draft", x.paste(), 14);
        Check.due("its bytes", Check.taken(x), "#[200~xy#[201~");
        for (int i = 0; i < 40; i++) {
            x.draft('a');
        }
        Check.due("a full draft", x.paste(), 52);
        Check.due("its bytes", Check.taken(x), "#[200~" + "a".repeat(40) + "#[201~");
        Check.write(x, "#[?204l");
        Check.due("off", x.paste(), 0);
    }

    private static void modesMeanwhile() {
        InputrowConsole x = Check.with("#[?20");
        x.rule(true, true);
        Check.draft(x, "4hz");
        Check.due("PASTE comes on by the echo", x.paste(), 3);
        Check.due("its bytes", Check.taken(x), "4hz");
        Check.due("the next one", x.paste(), 12);
    }

    private static void stopped() {
        InputrowConsole x = new InputrowConsole();
        Check.draft(x, "ab\u0013cd\u0011e");
        Check.due("with 19 and 17", x.paste(), 7);
        Check.due("the line", x.told(14), 5);
        Check.due("the echo", Check.row(x, 0), "abcde.......");
    }
}
