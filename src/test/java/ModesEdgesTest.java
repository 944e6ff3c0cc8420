/** The boundary cases of the modes, of what is saved, of OTHER and of the reset; the comments are the document's sentences. */
public final class ModesEdgesTest {
    // The letters of KEYS, MOUSE, PASTE, SHOWN, OTHER, INSERT, WRAP and ORIGIN: k m p s o i w r.
    private static final String AT_FIRST = "---s--w-";

    public static void main(String[] args) {
        modesByNumber();
        severalModes();
        otherTwice();
        otherIsEmpty();
        savedByOther();
        savedOnce();
        broughtBack();
        broughtBackBeyond();
        broughtBackLate();
        reset();
        resetInOther();
        Check.end();
    }

    /** Each mode as it shows itself: its letter, or - if it is off; asking types and draws, so it is asked last. */
    private static String modes(InputrowConsole x) {
        StringBuilder text = new StringBuilder();
        boolean isShown = x.told(18) == 1;
        boolean isOther = x.told(11) == 1;
        x.rule(true, false);
        x.key(InputrowConsole.UP, 0);
        text.append(Check.taken(x).equals("#OA") ? 'k' : '-');
        text.append(x.mouse(0, 0, 0) == 0 ? '-' : 'm').append(x.paste() == 0 ? '-' : 'p');
        text.append(isShown ? 's' : '-').append(isOther ? 'o' : '-');
        Check.write(x, "#[2;3r");
        boolean isOrigin = x.told(0) == 1;
        Check.write(x, "#[r#[2J#[Hab#[Hx");
        text.append(x.cell(0, 1) == 'a' ? 'i' : '-');
        x.code(false, 1, x.told(8), 'H');
        x.write('z');
        return text.append(x.told(2) == 1 ? 'w' : '-').append(isOrigin ? 'r' : '-').toString();
    }

    /** With ? 1 KEYS, 6 ORIGIN, 7 WRAP, 25 SHOWN, 47 OTHER, 100 MOUSE, 204 PASTE; without ? 4 INSERT. */
    private static void modesByNumber() {
        Check.due("at first", modes(new InputrowConsole()), AT_FIRST);
        for (int number = 0; number <= 300; number++) {
            InputrowConsole on = new InputrowConsole();
            on.code(true, number, 0, 'h');
            Check.due("? " + number + " h", modes(on), dueOn(number));
            InputrowConsole off = new InputrowConsole();
            off.code(true, number, 0, 'h');
            off.code(true, number, 0, 'l');
            Check.due("? " + number + " h, l", modes(off), dueOff(number));
            InputrowConsole plain = new InputrowConsole();
            plain.code(false, number, 0, 'h');
            Check.due(number + " h", modes(plain), number == 4 ? "---s-iw-" : AT_FIRST);
            InputrowConsole plainOff = Check.with("#[4h");
            plainOff.code(false, number, 0, 'l');
            Check.due("4 h, " + number + " l", modes(plainOff), number == 4 ? AT_FIRST : "---s-iw-");
        }
    }

    private static String dueOn(int number) {
        switch (number) {
            case 1: return "k--s--w-";
            case 6: return "---s--wr";
            case 47: return "---so-w-";
            case 100: return "-m-s--w-";
            case 204: return "--ps--w-";
            default: return AT_FIRST;
        }
    }

    private static String dueOff(int number) {
        switch (number) {
            case 7: return "---s----";
            case 25: return "------w-";
            default: return AT_FIRST;
        }
    }

    /** h, l: each number tells a mode that is on, or off, then. */
    private static void severalModes() {
        Check.due("four on", modes(Check.with("#[?1;6;100;204h")), "kmps--wr");
        Check.due("four off", modes(Check.with("#[?1;6;100;204h#[?204;100;6;1l")), AT_FIRST);
        Check.due("four others off", modes(Check.with("#[?7;25;0;3l")), "--------");
        Check.due("on twice", modes(Check.with("#[?1;1h#[?1h")), "k--s--w-");
        Check.due("INSERT as the fourth", modes(Check.with("#[1;2;3;4h")), "---s-iw-");
        Check.due("INSERT as the fifth", modes(Check.with("#[1;2;3;5;4h")), AT_FIRST);
        Check.due("OTHER as the fourth", modes(Check.with("#[?0;2;3;47h")), "---so-w-");
    }

    /** OTHER on: if MAIN is shown, ..; off: if OTHER is shown, ... */
    private static void otherTwice() {
        InputrowConsole x = Check.with("ab#[?47hcd#[?47h");
        Check.due("on again: the cells", Check.row(x, 0), "..cd........");
        Check.due("on again: the cursor", Check.cursor(x), "0,4");
        Check.write(x, "#[?47l");
        Check.due("off: the cursor of the first time", Check.cursor(x), "0,2");
        Check.write(x, "#[3;3H#[?47l");
        Check.due("off again", Check.cursor(x), "2,2");
        Check.due("off again: the cells", Check.row(x, 0), "ab..........");
        InputrowConsole off = Check.with("#[1mab#7c#[?47l");
        Check.due("off, never on", Check.cursor(off), "0,3");
        InputrowConsole both = Check.with("ab#[?47;47h");
        Check.due("on twice in one code", both.told(11), 1);
    }

    /** The cursor is saved, and OTHER is shown, with all cells empty. */
    private static void otherIsEmpty() {
        InputrowConsole x = Check.with(2, 4, "#[1mab#[?47h");
        Check.due("at first", Check.rows(x), ".... ....");
        Check.due("the cursor stays", Check.cursor(x), "0,2");
        Check.due("the attribute stays", x.told(4), 1);
        Check.write(x, "cdefghijklmn#[?47l#[?47h");
        Check.due("the next time", Check.rows(x), ".... ....");
        Check.due("no history", x.told(9), 0);
        InputrowConsole late = Check.with(2, 4, "abcd#[?47h");
        Check.due("late in OTHER", Check.cursor(late), "0,3!");
        late.write('e');
        Check.due("a sign then", Check.rows(late), "....+ e...");
        Check.write(late, "#[?47l");
        Check.due("late in MAIN again", Check.cursor(late), "0,3!");
    }

    private static void savedByOther() {
        InputrowConsole x = Check.with("#[3;5r#[?6h#[2;4H#[2m#[?47h#[?6l#[r#[m#[6;6H");
        Check.write(x, "#[?47l");
        Check.due("row and column", Check.cursor(x), "3,3");
        Check.due("attribute", x.told(4), 2);
        Check.due("the region is not saved", x.told(5) * 10 + x.told(6), 5);
        Check.write(x, "#[3;5r");
        Check.due("ORIGIN", Check.cursor(x), "2,0");
        InputrowConsole modes = Check.with("#[?47h#[?1;100;204h#[4h#[?47l");
        Check.due("other modes are not saved", modes(modes), "kmps-iw-");
    }

    /** There is one saved cursor. */
    private static void savedOnce() {
        Check.due("saved in OTHER, for MAIN", Check.cursor(Check.with("ab#[?47h#[5;5H#7#[1;1H#[?47l")), "4,4");
        Check.due("saved by OTHER, over that saved ahead", Check.cursor(Check.with("ab#7#[3;3H#[?47h#[?47l#[1;1H#8")), "2,2");
        Check.due("saved twice", Check.cursor(Check.with("ab#7cd#7#[1;1H#8")), "0,4");
        Check.due("brought back twice", Check.cursor(Check.with("ab#7cd#8#[5;5H#8")), "0,2");
        Check.due("brought back by OTHER, and again", Check.cursor(Check.with("ab#[?47hcd#[?47l#[5;5H#8")), "0,2");
    }

    /** Brought back without being saved, the cursor is at 0, 0, not late, the attribute 0, ORIGIN off. */
    private static void broughtBack() {
        InputrowConsole x = Check.with("#[2;4r#[?6h#[3m#[2;1Habcdefghijkl#8");
        Check.due("the cursor", Check.cursor(x), "0,0");
        Check.due("the attribute", x.told(4), 0);
        Check.write(x, "#[2;4r");
        Check.due("ORIGIN", Check.cursor(x), "0,0");
        InputrowConsole saved = Check.with("#[2;4r#[?6h#[3m#[2;2H#7#[?6l#[m#8");
        Check.due("saved: the cursor", Check.cursor(saved), "2,1");
        Check.due("saved: the attribute", saved.told(4), 4);
        Check.write(saved, "#[H");
        Check.due("saved: ORIGIN", Check.cursor(saved), "1,0");
        Check.due("WRAP, INSERT and others are not saved", modes(Check.with("#7#[?7l#[4h#[?25l#8")), "-----i--");
    }

    /** What lies beyond the screen by then is at its end. */
    private static void broughtBackBeyond() {
        int[][] sizes = {{6, 12}, {5, 11}, {2, 4}, {7, 13}, {12, 24}};
        for (int[] size : sizes) {
            InputrowConsole x = Check.with("#[6;12H#7#[1;1H");
            x.size(size[0], size[1]);
            Check.write(x, "#8");
            String due = Math.min(5, size[0] - 1) + "," + Math.min(11, size[1] - 1);
            Check.due("brought back, " + size[0] + " of " + size[1], Check.cursor(x), due);
        }
    }

    /** It is late then only in the last column, with WRAP on. */
    private static void broughtBackLate() {
        int[] columns = {4, 11, 12, 13, 24};
        for (int count : columns) {
            InputrowConsole x = Check.with("abcdefghijkl#7#[1;1H");
            x.size(6, count);
            Check.write(x, "#8");
            Check.due("saved late, " + count + " columns", Check.cursor(x), "0," + Math.min(11, count - 1) + (count <= 12 ? "!" : ""));
        }
        Check.due("WRAP off", Check.cursor(Check.with("abcdefghijkl#7#[?7l#8")), "0,11");
        Check.due("WRAP off and on", Check.cursor(Check.with("abcdefghijkl#7#[?7l#[?7h#8")), "0,11!");
        Check.due("saved with WRAP off", Check.cursor(Check.with("#[?7labcdefghijkl#7#[?7h#8")), "0,11");
        Check.due("not saved late", Check.cursor(Check.with("#[1;12H#7#[1;1Habcdefghijkl#8")), "0,11");
        InputrowConsole x = Check.with("abcdefghijk#7");
        x.size(6, 11);
        Check.write(x, "#8");
        Check.due("not late ahead of the last column, cut", Check.cursor(x), "0,10");
        InputrowConsole off = Check.with("abcdefghijkl#[?47h#[?7l#[?47l");
        Check.due("by OTHER, WRAP off", Check.cursor(off), "0,11");
    }

    /** To reset: .. as at first; the history and the title stay, the last row of the history does not go on. */
    private static void reset() {
        String all = "#]t\u0007#[3g#[2;3r#[?6h#[1;2mabcdefghijklm#7#[?1;7;25;100l#[?1;100;204h#[4h";
        InputrowConsole x = Check.with(3, 4, "abcdefghijklmn" + all + "#c");
        Check.due("the cursor", Check.cursor(x), "0,0");
        Check.due("the attribute", x.told(4), 0);
        Check.due("the region", x.told(5) * 10 + x.told(6), 2);
        Check.due("the pictures", Check.rows(x), ".... .... ....");
        Check.due("the title", Check.title(x), "t");
        Check.due("the history", Check.past(x), "abcd");
        Check.due("the size", x.told(7) * 100 + x.told(8), 304);
        Check.write(x, "#[5;5H#8");
        Check.due("what was saved", Check.cursor(x), "0,0");
        Check.due("the modes", modes(x), AT_FIRST);
        for (int last = 2; last <= 6; last++) {
            InputrowConsole region = Check.with("#[" + (last - 1) + ";" + last + "r#c");
            Check.due("the region's first row, " + last, region.told(5), 0);
            Check.due("the region's last row, " + last, region.told(6), 5);
        }
        InputrowConsole none = Check.with("#c");
        Check.due("reset of a new one", Check.all(none), Check.all(new InputrowConsole()));
        for (int columns = 4; columns <= 24; columns++) {
            InputrowConsole tabs = Check.with(2, columns, "#[3g#[1;3H#H#c");
            int due = columns > 4 ? 4 : InputrowConsole.NONE;
            Check.due("tabs of " + columns, tabs.told(20), due);
            tabs.code(false, 1, columns - 1, 'H');
            int last = (columns - 1) / 4 * 4;
            Check.due("the last tab of " + columns, tabs.told(20), last > columns - 2 ? last : InputrowConsole.NONE);
        }
    }

    private static void resetInOther() {
        InputrowConsole x = Check.with(2, 4, "abcdefghij#[?47hklm#c");
        Check.due("MAIN is shown", x.told(11), 0);
        Check.due("both are empty", Check.rows(x), ".... ....");
        Check.due("the history ends", Check.past(x), "abcd");
        Check.write(x, "#[5;5H#[?47l");
        Check.due("off is nothing then", Check.cursor(x), "1,3");
        Check.write(x, "#[?47h");
        Check.due("OTHER is empty", Check.rows(x), ".... ....");
        InputrowConsole state = Check.with("#c");
        Check.due("GROUND", state.told(3), InputrowConsole.GROUND);
        Check.due("rings stay", Check.with("\u0007#c").told(10), 1);
    }
}
