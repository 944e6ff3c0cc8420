/** The boundary cases of "Meanings" in "What is written"; the comments are its sentences. */
public final class CodesEdgesTest {
    private static final int ROWS = 4;
    private static final int COLUMNS = 6;
    private static final int[] COUNTS = {0, 1, 2, 3, 4, 5, 6, 7, 999};
    // Four rows of six full cells; the first three go on.
    private static final String PICTURE = "abcdefghijklmnopqrstuvwx";

    public static void main(String[] args) {
        for (int row = 0; row < ROWS; row++) {
            for (int column = 0; column < COLUMNS; column++) {
                steps(row, column);
                erasingRows(row, column);
                erasingScreens(row, column);
                cellsOfARow(row, column);
            }
        }
        places();
        placesWithOrigin();
        historyErased();
        for (int top = 0; top < ROWS; top++) {
            for (int bottom = top + 1; bottom < ROWS; bottom++) {
                lines(top, bottom);
                scrolling(top, bottom);
            }
        }
        regions();
        regionsWithOrigin();
        attributes();
        answers();
        answersWithOrigin();
        Check.end();
    }

    private static InputrowConsole at(int row, int column, String text) {
        InputrowConsole x = Check.with(ROWS, COLUMNS, text);
        x.code(false, row + 1, column + 1, 'H');
        return x;
    }

    private static String from(int row, int column) {
        return " from " + row + "," + column;
    }

    /** A, B, C, D: the cursor is n rows up, down, n columns right, left, as far as the screen goes; n is 1 if it is 0. */
    private static void steps(int row, int column) {
        for (int count : COUNTS) {
            int n = Math.max(count, 1);
            int[] rows = {Math.max(row - n, 0), Math.min(row + n, ROWS - 1), row, row};
            int[] columns = {column, column, Math.min(column + n, COLUMNS - 1), Math.max(column - n, 0)};
            for (int i = 0; i < 4; i++) {
                InputrowConsole x = at(row, column, "");
                x.code(false, count, 0, 'A' + i);
                String name = count + " " + (char) ('A' + i) + from(row, column);
                Check.due(name, Check.cursor(x), rows[i] + "," + columns[i]);
                InputrowConsole y = at(row, column, "#[2;3r");
                y.code(false, count, 0, 'A' + i);
                Check.due(name + ", the region is nothing to it", Check.cursor(y), rows[i] + "," + columns[i]);
            }
        }
        InputrowConsole bare = at(row, column, "");
        Check.write(bare, "#[C");
        Check.due("C without a number" + from(row, column), Check.cursor(bare), row + "," + Math.min(column + 1, COLUMNS - 1));
    }

    /** H: from 1 on (0 is 1), as far as the screen goes. */
    private static void places() {
        int[] numbers = {0, 1, 2, 3, 4, 5, 6, 7, 8, 999};
        for (int one : numbers) {
            for (int two : numbers) {
                InputrowConsole x = at(2, 2, "");
                x.code(false, one, two, 'H');
                int row = Math.min(Math.max(one, 1), ROWS) - 1;
                int column = Math.min(Math.max(two, 1), COLUMNS) - 1;
                Check.due(one + ";" + two + " H", Check.cursor(x), row + "," + column);
            }
        }
        Check.due("H without numbers", Check.cursor(Check.with("abc\n#[H")), "0,0");
        Check.due("H of one number", Check.cursor(Check.with("abc\n#[3H")), "2,0");
    }

    /** With ORIGIN rows count from the first one of the region, and the last one of it is the end. */
    private static void placesWithOrigin() {
        for (int top = 0; top < ROWS; top++) {
            for (int bottom = top + 1; bottom < ROWS; bottom++) {
                for (int one : new int[] {0, 1, 2, 3, 4, 5, 999}) {
                    InputrowConsole x = Check.with(ROWS, COLUMNS, "#[?6h");
                    x.code(false, top + 1, bottom + 1, 'r');
                    x.code(false, one, 999, 'H');
                    int row = Math.min(top + Math.max(one, 1) - 1, bottom);
                    String name = one + " H, region " + top + " to " + bottom;
                    Check.due(name, Check.cursor(x), row + "," + (COLUMNS - 1));
                }
            }
        }
        Check.due("ORIGIN on", Check.cursor(Check.with("#[2;4r#[6;6H#[?6h")), "1,0");
        Check.due("ORIGIN on again", Check.cursor(Check.with("#[2;4r#[?6h#[3;3H#[?6h")), "1,0");
        Check.due("ORIGIN off", Check.cursor(Check.with("#[2;4r#[?6h#[3;3H#[?6l")), "0,0");
        Check.due("ORIGIN on, late", Check.cursor(Check.with("abcdefghijkl#[?6h")), "0,0");
        Check.due("A leaves the region with ORIGIN", Check.cursor(Check.with("#[2;4r#[?6h#[9A")), "0,0");
        Check.due("B leaves the region with ORIGIN", Check.cursor(Check.with("#[2;4r#[?6h#[9B")), "5,0");
    }

    private static String row(int row, int from, int end, boolean isGoing) {
        StringBuilder text = new StringBuilder(PICTURE.substring(row * COLUMNS, (row + 1) * COLUMNS));
        for (int column = from; column < end; column++) {
            text.setCharAt(column, '.');
        }
        return text.append(isGoing && row < ROWS - 1 ? "+" : "").toString();
    }

    /** Erasing to the end of a row, or of all of it, makes it not go on. */
    private static String erasedRow(int row, int column, int how) {
        switch (how) {
            case 0: return row(row, column, COLUMNS, false);
            case 1: return row(row, 0, column + 1, column < COLUMNS - 1);
            case 2: return row(row, 0, COLUMNS, false);
            default: return row(row, 0, 0, true);
        }
    }

    /** K: in the row: from the cursor on to the end (0), from the beginning to the cursor (1), all (2). */
    private static void erasingRows(int row, int column) {
        for (int how = 0; how <= 4; how++) {
            InputrowConsole x = at(row, column, PICTURE);
            x.code(false, how, 0, 'K');
            String name = how + " K" + from(row, column);
            for (int i = 0; i < ROWS; i++) {
                Check.due(name + ": row " + i, Check.row(x, i), i == row ? erasedRow(i, column, how) : row(i, 0, 0, true));
            }
            Check.due(name + ": the cursor", Check.cursor(x), row + "," + column);
        }
        InputrowConsole bare = at(row, column, PICTURE);
        Check.write(bare, "#[K");
        Check.due("K without a number" + from(row, column), Check.row(bare, row), erasedRow(row, column, 0));
    }

    /** J: from the cursor on to the end of the screen (0), from the beginning to the cursor (1), all (2), the history (3). */
    private static void erasingScreens(int row, int column) {
        for (int how = 0; how <= 4; how++) {
            InputrowConsole x = at(row, column, PICTURE);
            x.code(false, how, 0, 'J');
            String name = how + " J" + from(row, column);
            for (int i = 0; i < ROWS; i++) {
                boolean isErased = how == 2 || how == 0 && i > row || how == 1 && i < row;
                String due = isErased ? "......" : i == row ? erasedRow(i, column, how) : row(i, 0, 0, true);
                Check.due(name + ": row " + i, Check.row(x, i), due);
            }
            Check.due(name + ": the cursor", Check.cursor(x), row + "," + column);
        }
    }

    private static void historyErased() {
        for (int how = 0; how <= 4; how++) {
            InputrowConsole x = Check.with(2, 4, "abcdefghijklmnop");
            x.code(false, how, 0, 'J');
            Check.due(how + " J: rows of the history", x.told(9), how == 3 ? 0 : 2);
        }
        InputrowConsole none = Check.with(2, 4, "abcde#[3J");
        Check.due("no history to erase", none.told(9) + Check.rows(none), "0abcd+ e...");
        InputrowConsole full = Check.with(2, 4, "#[45S");
        Check.due("40 rows", full.told(9), 40);
        Check.write(full, "#[3J");
        Check.due("none of 40", full.told(9), 0);
        Check.outOfBounds("no row then", () -> full.past(0, 0));
        Check.outOfBounds("no row to go on then", () -> full.goesOn(-1));
        Check.write(full, "ab#[S");
        Check.due("a first one again", Check.past(full), "ab..");
    }

    /** @: moved to the right by n, empty ones come; P: n cells go, those behind them follow; X: n cells are erased. */
    private static void cellsOfARow(int row, int column) {
        String text = PICTURE.substring(row * COLUMNS, (row + 1) * COLUMNS);
        String going = row < ROWS - 1 ? "+" : "";
        for (int count : COUNTS) {
            int n = Math.min(Math.max(count, 1), COLUMNS - column);
            String head = text.substring(0, column);
            String gap = ".".repeat(n);
            String[] due = {head + gap + text.substring(column, COLUMNS - n), head + text.substring(column + n) + gap,
                head + gap + text.substring(column + n)};
            for (int i = 0; i < 3; i++) {
                InputrowConsole x = at(row, column, PICTURE);
                x.code(false, count, 0, "@PX".charAt(i));
                String name = count + " " + "@PX".charAt(i) + from(row, column);
                Check.due(name, Check.row(x, row), due[i] + going);
                Check.due(name + ": the cursor", Check.cursor(x), row + "," + column);
                Check.due(name + ": the next row", Check.row(x, (row + 1) % ROWS), row((row + 1) % ROWS, 0, 0, true));
            }
        }
    }

    private static String firsts(InputrowConsole x) {
        StringBuilder text = new StringBuilder();
        for (int row = 0; row < ROWS; row++) {
            text.append(x.cell(row, 0) == 0 ? '.' : (char) x.cell(row, 0));
        }
        return text.toString();
    }

    private static String scrolled(String rows, int first, int last, int times, boolean isUp) {
        String inside = rows.substring(first, last + 1);
        String gap = ".".repeat(Math.min(times, inside.length()));
        String all = isUp ? inside + gap : gap + inside;
        int from = isUp ? gap.length() : 0;
        return rows.substring(0, first) + all.substring(from, from + inside.length()) + rows.substring(last + 1);
    }

    /** L, M: if the cursor is in the region, the rows from it to the end of the region scroll down, or up, n times. */
    private static void lines(int top, int bottom) {
        for (int row = 0; row < ROWS; row++) {
            for (int count : COUNTS) {
                for (int isUp = 0; isUp <= 1; isUp++) {
                    InputrowConsole x = Check.with(ROWS, COLUMNS, "a\r\ng\r\nm\r\ns");
                    x.code(false, top + 1, bottom + 1, 'r');
                    x.code(false, row + 1, 3, 'H');
                    x.code(false, count, 0, isUp == 1 ? 'M' : 'L');
                    boolean isInside = row >= top && row <= bottom;
                    String name = count + (isUp == 1 ? " M" : " L") + ", region " + top + " to " + bottom + ", row " + row;
                    int n = Math.max(count, 1);
                    Check.due(name, firsts(x), isInside ? scrolled("agms", row, bottom, n, isUp == 1) : "agms");
                    Check.due(name + ": the cursor", Check.cursor(x), row + "," + (isInside ? 0 : 2));
                    Check.due(name + ": no history", x.told(9), 0);
                }
            }
        }
    }

    /** S, T: the region scrolls up, or down, n times. */
    private static void scrolling(int top, int bottom) {
        for (int count : COUNTS) {
            for (int isUp = 0; isUp <= 1; isUp++) {
                InputrowConsole x = Check.with(ROWS, COLUMNS, "a\r\ng\r\nm\r\ns");
                x.code(false, top + 1, bottom + 1, 'r');
                Check.write(x, "#[2;3H");
                x.code(false, count, 0, isUp == 1 ? 'S' : 'T');
                String name = count + (isUp == 1 ? " S" : " T") + ", region " + top + " to " + bottom;
                int n = Math.max(count, 1);
                Check.due(name, firsts(x), scrolled("agms", top, bottom, n, isUp == 1));
                Check.due(name + ": the cursor", Check.cursor(x), "1,2");
                Check.due(name + ": history", x.told(9), isUp == 1 && top == 0 ? Math.min(n, 40) : 0);
            }
        }
    }

    /** r: 0 for the first and the last one; if the first one is not less than the second one, or there is no such row. */
    private static void regions() {
        for (int one = 0; one <= ROWS + 2; one++) {
            for (int two = 0; two <= ROWS + 2; two++) {
                InputrowConsole x = Check.with(ROWS, COLUMNS, "#[2;3r#[4;5H");
                x.code(false, one, two, 'r');
                int first = one == 0 ? 1 : one;
                int last = two == 0 ? ROWS : two;
                boolean isRegion = first < last && last <= ROWS;
                String name = one + ";" + two + " r";
                Check.due(name + ": first", x.told(5), isRegion ? first - 1 : 1);
                Check.due(name + ": last", x.told(6), isRegion ? last - 1 : 2);
                Check.due(name + ": the cursor", Check.cursor(x), isRegion ? "0,0" : "3,4");
            }
        }
        Check.due("r of 999", Check.with("#[2;3r#[1;999r").told(6), 2);
        Check.due("r from 999", Check.with("#[2;3r#[999r").told(5), 1);
        Check.due("r without numbers", Check.with("#[2;3r#[r").told(6), 5);
        Check.due("r of 12 rows", Check.with(12, 4, "#[11;12r").told(5), 10);
        Check.due("r of 2 rows", Check.with(2, 4, "#[1;2r").told(6), 1);
        Check.due("r of one row", Check.with(2, 4, "#[2;2r").told(5), 0);
    }

    /** The cursor is at the first row and column then (with ORIGIN that of the region). */
    private static void regionsWithOrigin() {
        for (int one = 1; one < ROWS; one++) {
            InputrowConsole x = Check.with(ROWS, COLUMNS, "#[?6h#[9;9H");
            x.code(false, one, 0, 'r');
            Check.due("ORIGIN, " + one + " r", Check.cursor(x), (one - 1) + ",0");
        }
        Check.due("ORIGIN, no region", Check.cursor(Check.with("#[2;3r#[?6h#[2;4H#[3;3r")), "2,3");
    }

    /** 0: the attribute is 0; 1 to 4 add 1, 2, 4, 8, if it does not have it; 21 to 24 take it away. */
    private static void attributes() {
        for (int before = 0; before <= 15; before++) {
            for (int number = 0; number <= 30; number++) {
                InputrowConsole x = new InputrowConsole();
                for (int i = 0; i < 4; i++) {
                    if ((before >> i & 1) == 1) {
                        x.code(false, i + 1, 0, 'm');
                    }
                }
                Check.due("attribute", x.told(4), before);
                x.code(false, number, 0, 'm');
                int due = number == 0 ? 0 : before;
                if (number >= 1 && number <= 4) {
                    due = before | 1 << (number - 1);
                } else if (number >= 21 && number <= 24) {
                    due = before & ~(1 << (number - 21));
                }
                Check.due("attribute " + before + ", then " + number + " m", x.told(4), due);
            }
        }
    }

    /** n: 5 sends ESC [ 0 n, 6 ESC [ the row and the column, from 1 on, with ; between and R. */
    private static void answers() {
        for (int number = 0; number <= 10; number++) {
            InputrowConsole x = Check.with("#[3;4H");
            x.code(false, number, 0, 'n');
            Check.due(number + " n", Check.taken(x), number == 5 ? "#[0n" : number == 6 ? "#[3;4R" : "");
        }
        int[][] places = {{1, 1}, {1, 24}, {12, 1}, {12, 24}, {9, 9}, {10, 10}};
        for (int[] place : places) {
            InputrowConsole x = new InputrowConsole();
            x.size(12, 24);
            x.code(false, place[0], place[1], 'H');
            Check.write(x, "#[6n");
            Check.due("6 n at " + place[0] + ";" + place[1], Check.taken(x), "#[" + place[0] + ";" + place[1] + "R");
        }
        Check.due("6 n when late", Check.taken(Check.with("abcdefghijkl#[6n")), "#[1;12R");
    }

    /** With ORIGIN in the region, at least 1. */
    private static void answersWithOrigin() {
        int[] due = {1, 1, 1, 2, 3, 4};
        for (int row = 0; row < 6; row++) {
            InputrowConsole x = Check.with("#[3;5r#[?6h#[9A");
            if (row > 0) {
                x.code(false, row, 0, 'B');
            }
            Check.due("the cursor", x.told(0), row);
            Check.write(x, "#[6n");
            Check.due("ORIGIN, 6 n from the row " + row, Check.taken(x), "#[" + due[row] + ";1R");
        }
    }
}
