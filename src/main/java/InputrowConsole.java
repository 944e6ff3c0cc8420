import java.util.Arrays;

/**
 * A terminal with its history, its line rule, its slow line and its record.
 *
 * What is asked of it stands in shared/DOC.md; README.md tells how the parts go together.
 */
public final class InputrowConsole {
    public static final int NONE = -1;
    public static final int GROUND = 0, ESCAPE = 1, CODE = 2, TITLE = 3;
    public static final int UP = 0, DOWN = 1, RIGHT = 2, LEFT = 3, HOME = 4, END = 5, DELETE = 6;

    private static final int LEAST_ROWS = 2;
    private static final int MOST_ROWS = 12;
    private static final int FIRST_ROWS = 6;
    private static final int LEAST_COLUMNS = 4;
    private static final int MOST_COLUMNS = 24;
    private static final int FIRST_COLUMNS = 12;
    private static final int MOST_PAST = 40;
    private static final int MOST_HELD = 100;
    private static final int MOST_IN_LINE = 30;
    private static final int MOST_IN_DRAFT = 40;
    private static final int MOST_IN_TITLE = 16;
    private static final int MOST_FOR_PROGRAM = 200;
    // A pasted draft with what stands ahead of it and behind it has 52 bytes.
    private static final int MOST_TYPED = 64;
    // The longest answer is that to 6: ESC [ 12 ; 24 R.
    private static final int MOST_ANSWERED = 8;
    // The dearest echo is a whole line of bytes below 32 taken away: 180 bytes.
    private static final int MOST_ARRIVING = 256;
    private static final int MOST_NUMBER = 999;
    private static final int MOST_MARKS = 3;
    private static final int MOST_MODIFIERS = 7;
    private static final int MOST_STEPS = 1000000;

    private static final int EMPTY = 0;
    private static final int TAIL = -2;
    private static final int ATTRIBUTES = 16;
    private static final int PER_ATTRIBUTE = 1000;
    private static final int PER_MARK = 100000;
    private static final int TAB_WIDTH = 4;

    private static final int RING = 7;
    private static final int BACK = 8;
    private static final int TAB = 9;
    private static final int FEED = 10;
    private static final int RETURN = 13;
    private static final int CANCEL = 24;
    private static final int ESC = 27;
    private static final int BLANK = 32;
    private static final int MARK = 96;
    private static final int RUBOUT = 127;

    private static final char[] KEY_LETTERS = {'A', 'B', 'C', 'D', 'H', 'F'};

    private final Bytes typed = new Bytes(MOST_TYPED);
    private final Bytes toPaste = new Bytes(MOST_IN_DRAFT);
    private final LineRule lineRule = new LineRule();
    private final Screen screen = new Screen();
    private final Tape tape = new Tape();
    private final Screen screenAnew = new Screen();
    private final SlowLine slowLine = new SlowLine();

    public InputrowConsole() {
    }

    // ---- what is written and typed

    public int write(int b) throws IllegalArgumentException, IllegalStateException {
        if (b < 0 || b > RUBOUT) {
            throw new IllegalArgumentException("no such byte");
        }
        if (!lineRule.hasRoomFor(1)) {
            throw new IllegalStateException("stopped, and no room");
        }
        lineRule.bring(b);
        settle();
        return lineRule.held.count();
    }

    public int code(boolean isMarked, int one, int two, int b) throws IllegalArgumentException, IllegalStateException {
        if (one < 0 || one > MOST_NUMBER || two < 0 || two > MOST_NUMBER) {
            throw new IllegalArgumentException("no such number");
        }
        if (b < '@' || b > '~') {
            throw new IllegalArgumentException("no such byte");
        }
        int length = 3 + (isMarked ? 1 : 0) + digitsOf(one) + (two == 0 ? 0 : 1 + digitsOf(two));
        if (!lineRule.hasRoomFor(length)) {
            throw new IllegalStateException("stopped, and no room");
        }
        lineRule.bring(ESC);
        lineRule.bring('[');
        if (isMarked) {
            lineRule.bring('?');
        }
        lineRule.bringNumber(one);
        if (two != 0) {
            lineRule.bring(';');
            lineRule.bringNumber(two);
        }
        lineRule.bring(b);
        settle();
        return lineRule.held.count();
    }

    public int type(int b) throws IllegalArgumentException {
        if (b < 0 || b > RUBOUT) {
            throw new IllegalArgumentException("no such byte");
        }
        typed.add(b);
        settle();
        return lineRule.line.count();
    }

    public int key(int key, int modifiers) throws IllegalArgumentException {
        if (key < UP || key > DELETE) {
            throw new IllegalArgumentException("no such key");
        }
        if (modifiers < 0 || modifiers > MOST_MODIFIERS) {
            throw new IllegalArgumentException("no such modifiers");
        }
        boolean isLetter = key < KEY_LETTERS.length;
        typed.add(ESC);
        typed.add(isLetter && modifiers == 0 && screen.modes.isKeys ? 'O' : '[');
        if (modifiers != 0) {
            typed.add(isLetter ? '1' : '3');
            typed.add(';');
            typed.addNumber(modifiers + 1);
        } else if (!isLetter) {
            typed.add('3');
        }
        typed.add(key < KEY_LETTERS.length ? KEY_LETTERS[key] : '~');
        int count = typed.count();
        settle();
        return count;
    }

    public int draft(int b) throws IllegalArgumentException, IllegalStateException {
        if (b < 1 || b >= RUBOUT) {
            throw new IllegalArgumentException("no such byte");
        }
        if (toPaste.room() < 1) {
            throw new IllegalStateException("the draft is full");
        }
        toPaste.add(b);
        return toPaste.count();
    }

    public int paste() {
        boolean isBracketed = screen.modes.isPaste;
        if (isBracketed) {
            addBracket('0');
        }
        int drafted = toPaste.count();
        for (int i = 0; i < drafted; i++) {
            int b = toPaste.removeFirst();
            if (b != ESC) {
                typed.add(b);
            }
        }
        if (isBracketed) {
            addBracket('1');
        }
        int count = typed.count();
        settle();
        return count;
    }

    public int mouse(int button, int row, int column) throws IndexOutOfBoundsException, IllegalArgumentException {
        if (!screen.has(row, column)) {
            throw new IndexOutOfBoundsException("no such cell");
        }
        if (button < 0 || button > 2) {
            throw new IllegalArgumentException("no such button");
        }
        if (!screen.modes.isMouse) {
            return 0;
        }
        typed.add(ESC);
        typed.add('[');
        typed.add('<');
        typed.addNumber(button);
        typed.add(';');
        typed.addNumber(column + 1);
        typed.add(';');
        typed.addNumber(row + 1);
        typed.add('M');
        int count = typed.count();
        settle();
        return count;
    }

    public boolean rule(boolean isRaw, boolean echoes) {
        return lineRule.change(isRaw, echoes);
    }

    public int take() {
        return lineRule.program.removeFirst();
    }

    public int size(int rows, int columns) throws IllegalArgumentException {
        if (rows < LEAST_ROWS || rows > MOST_ROWS || columns < LEAST_COLUMNS || columns > MOST_COLUMNS) {
            throw new IllegalArgumentException("no such size");
        }
        tape.noteSize(rows, columns);
        screen.resize(rows, columns);
        slowLine.begin(rows, columns);
        return screen.main.history.count();
    }

    public int draw() {
        int costs = 0;
        Picture picture = screen.shown();
        for (int row = 0; row < picture.rows(); row++) {
            costs += slowLine.costsOf(picture, row);
        }
        slowLine.drawn.copyCells(picture);
        return costs;
    }

    // ---- what is asked

    public int cell(int row, int column) throws IndexOutOfBoundsException {
        if (!screen.has(row, column)) {
            throw new IndexOutOfBoundsException("no such cell");
        }
        return screen.shown().at(row, column);
    }

    public int cellAnew(int row, int column) throws IndexOutOfBoundsException {
        if (!screen.has(row, column)) {
            throw new IndexOutOfBoundsException("no such cell");
        }
        tape.playOn(screenAnew);
        return screenAnew.shown().at(row, column);
    }

    public int past(int row, int column) throws IndexOutOfBoundsException {
        if (row < 0 || row >= screen.main.history.count() || column < 0 || column >= screen.columns) {
            throw new IndexOutOfBoundsException("no such cell");
        }
        return screen.main.history.at(row, column);
    }

    public boolean goesOn(int row) throws IndexOutOfBoundsException {
        int count = screen.main.history.count();
        if (row < -count || row >= screen.rows) {
            throw new IndexOutOfBoundsException("no such row");
        }
        return row < 0 ? screen.main.history.isGoing(count + row) : screen.shown().isGoing(row);
    }

    public int title(int place) throws IndexOutOfBoundsException {
        if (place < 0 || place >= screen.reader.title.count()) {
            throw new IndexOutOfBoundsException("no such place");
        }
        return screen.reader.title.at(place);
    }

    public int least(int row) throws IndexOutOfBoundsException {
        if (row < 0 || row >= screen.rows) {
            throw new IndexOutOfBoundsException("no such row");
        }
        return slowLine.costsOf(screen.shown(), row);
    }

    public int told(int what) throws IllegalArgumentException {
        if (what < 0 || what > 20) {
            throw new IllegalArgumentException("nothing to tell");
        }
        switch (what) {
            case 10: return screen.rings;
            case 11: return screen.isOther ? 1 : 0;
            case 12: return lineRule.isStopped ? 1 : 0;
            case 13: return lineRule.held.count();
            case 14: return lineRule.line.count();
            case 15: return lineRule.program.count();
            case 16: return lineRule.ends;
            case 17: return lineRule.interrupts;
            case 18: return screen.modes.isShown ? 1 : 0;
            case 19: return screen.reader.title.count();
            case 20: return screen.nextTab();
            default: return screen.tellPlaces(what);
        }
    }

    // ---- how it goes together

    /** An echo comes to the screen before the next typed byte, as it may change what that one does. */
    private void settle() {
        for (int step = 0; step < MOST_STEPS; step++) {
            if (lineRule.arriving.count() > 0) {
                int b = lineRule.arriving.removeFirst();
                tape.noteByte(b);
                screen.receive(b);
                lineRule.program.addAll(screen.answers);
            } else if (typed.count() > 0) {
                lineRule.accept(typed.removeFirst());
            } else {
                return;
            }
        }
    }

    private void addBracket(int last) {
        typed.add(ESC);
        typed.add('[');
        typed.add('2');
        typed.add('0');
        typed.add(last);
        typed.add('~');
    }

    private static int digitsOf(int number) {
        if (number >= 100) {
            return 3;
        }
        return number >= 10 ? 2 : 1;
    }

    private static boolean isWide(int cell) {
        int sign = cell % PER_ATTRIBUTE;
        return sign >= 'A' && sign <= 'Z';
    }

    private static int attributeOf(int cell) {
        return cell > 0 ? cell % PER_MARK / PER_ATTRIBUTE : 0;
    }

    private static int marksOf(int cell) {
        return cell > 0 ? cell / PER_MARK : 0;
    }

    /** A row of bytes with a limit: what has no room is not taken in. */
    private static final class Bytes {
        private final int[] bytes;
        private int first;
        private int count;

        Bytes(int room) {
            bytes = new int[Math.max(room, 1)];
        }

        int count() {
            return count;
        }

        int room() {
            return bytes.length - count;
        }

        private int placeOf(int i) {
            int place = first + i;
            return place >= bytes.length ? place - bytes.length : place;
        }

        boolean add(int b) {
            int place = placeOf(count);
            if (count >= bytes.length || place < 0 || place >= bytes.length) {
                return false;
            }
            bytes[place] = b;
            count++;
            return true;
        }

        void addNumber(int number) {
            if (number >= 100) {
                add('0' + number / 100);
            }
            if (number >= 10) {
                add('0' + number / 10 % 10);
            }
            add('0' + number % 10);
        }

        int at(int i) {
            int place = placeOf(i);
            if (i < 0 || i >= count || place < 0 || place >= bytes.length) {
                return NONE;
            }
            return bytes[place];
        }

        int last() {
            return at(count - 1);
        }

        int removeFirst() {
            if (count <= 0 || first < 0 || first >= bytes.length) {
                return NONE;
            }
            int b = bytes[first];
            first = placeOf(1);
            count--;
            return b;
        }

        int removeLast() {
            int b = at(count - 1);
            if (count > 0) {
                count--;
            }
            return b;
        }

        void clear() {
            first = 0;
            count = 0;
        }

        /** Takes all bytes of the other row; for those without room here they are lost. */
        void addAll(Bytes from) {
            int length = from.count();
            for (int i = 0; i < length; i++) {
                add(from.removeFirst());
            }
        }
    }

    /** Rows of cells; those beyond its size are always empty. */
    private static final class Picture {
        private final int[] cells = new int[MOST_ROWS * MOST_COLUMNS];
        private final boolean[] going = new boolean[MOST_ROWS];
        private int rows = FIRST_ROWS;
        private int columns = FIRST_COLUMNS;

        int rows() {
            return rows;
        }

        int columns() {
            return columns;
        }

        int at(int row, int column) {
            if (row < 0 || row >= MOST_ROWS || column < 0 || column >= MOST_COLUMNS) {
                return EMPTY;
            }
            return cells[row * MOST_COLUMNS + column];
        }

        void put(int row, int column, int value) {
            if (row < 0 || row >= rows || column < 0 || column >= columns) {
                return;
            }
            if (row < MOST_ROWS && column < MOST_COLUMNS) {
                cells[row * MOST_COLUMNS + column] = value;
            }
        }

        boolean isGoing(int row) {
            return row >= 0 && row < MOST_ROWS && going[row];
        }

        void setGoing(int row, boolean isGoing) {
            if (row >= 0 && row < MOST_ROWS) {
                going[row] = isGoing;
            }
        }

        /** How many cells the row has up to the last one that is not empty. */
        int filled(int row) {
            for (int column = columns - 1; column >= 0; column--) {
                if (at(row, column) != EMPTY) {
                    return column + 1;
                }
            }
            return 0;
        }

        /** A wide sign that would be parted in front of the column becomes empty, both of its cells. */
        private void part(int row, int column) {
            if (at(row, column) == TAIL) {
                put(row, column - 1, EMPTY);
                put(row, column, EMPTY);
            }
        }

        /** Erases the cells from the first column to the one ahead of the end. */
        void erase(int row, int from, int end) {
            part(row, from);
            part(row, end);
            int last = Math.min(end, columns);
            for (int column = Math.max(from, 0); column < last; column++) {
                put(row, column, EMPTY);
            }
        }

        void insert(int row, int from, int count) {
            part(row, from);
            part(row, Math.max(columns - count, from));
            for (int column = columns - 1; column >= from; column--) {
                put(row, column, column - count >= from ? at(row, column - count) : EMPTY);
            }
        }

        void delete(int row, int from, int count) {
            part(row, from);
            part(row, from + count);
            for (int column = from; column < columns; column++) {
                put(row, column, column + count < columns ? at(row, column + count) : EMPTY);
            }
        }

        void moveUp(int first, int last) {
            if (first < 0 || last >= MOST_ROWS || first > last) {
                return;
            }
            int from = (first + 1) * MOST_COLUMNS;
            System.arraycopy(cells, from, cells, first * MOST_COLUMNS, (last - first) * MOST_COLUMNS);
            for (int row = first; row < last; row++) {
                going[row] = going[row + 1];
            }
            clearRow(last);
        }

        void moveDown(int first, int last) {
            if (first < 0 || last >= MOST_ROWS || first > last) {
                return;
            }
            int from = first * MOST_COLUMNS;
            System.arraycopy(cells, from, cells, from + MOST_COLUMNS, (last - first) * MOST_COLUMNS);
            for (int row = last; row > first; row--) {
                going[row] = going[row - 1];
            }
            clearRow(first);
            going[last] = false;
        }

        void clearRow(int row) {
            if (row < 0 || row >= MOST_ROWS) {
                return;
            }
            Arrays.fill(cells, row * MOST_COLUMNS, (row + 1) * MOST_COLUMNS, EMPTY);
            going[row] = false;
        }

        void clear() {
            for (int row = 0; row < MOST_ROWS; row++) {
                clearRow(row);
            }
        }

        /** The new size is one that size() lets in. */
        void begin(int newRows, int newColumns) {
            clear();
            rows = newRows;
            columns = newColumns;
        }

        void cut(int newRows, int newColumns) {
            for (int row = 0; row < rows; row++) {
                part(row, newColumns);
                for (int column = newColumns; column < columns; column++) {
                    put(row, column, EMPTY);
                }
            }
            for (int row = newRows; row < rows; row++) {
                clearRow(row);
            }
            rows = newRows;
            columns = newColumns;
            setGoing(rows - 1, false);
        }

        /** The other picture has the same size; its rows' going on is nothing to a slow line. */
        void copyCells(Picture from) {
            for (int row = 0; row < rows; row++) {
                for (int column = 0; column < columns; column++) {
                    put(row, column, from.at(row, column));
                }
            }
        }
    }

    /** The lines that left MAIN above, the oldest one first. */
    private static final class History {
        private final int[] cells = new int[MOST_PAST * MOST_COLUMNS];
        private final boolean[] going = new boolean[MOST_PAST];
        private int count;

        int count() {
            return count;
        }

        /** A latest row with empty cells; the oldest one makes room for it. */
        void add(boolean isGoing) {
            if (count >= MOST_PAST) {
                System.arraycopy(cells, MOST_COLUMNS, cells, 0, (MOST_PAST - 1) * MOST_COLUMNS);
                for (int row = 1; row < MOST_PAST; row++) {
                    going[row - 1] = going[row];
                }
                count = MOST_PAST - 1;
            }
            if (count < 0) {
                return;
            }
            Arrays.fill(cells, count * MOST_COLUMNS, (count + 1) * MOST_COLUMNS, EMPTY);
            going[count] = isGoing;
            count++;
        }

        void putLatest(int column, int value) {
            int row = count - 1;
            if (row >= 0 && row < MOST_PAST && column >= 0 && column < MOST_COLUMNS) {
                cells[row * MOST_COLUMNS + column] = value;
            }
        }

        int at(int row, int column) {
            if (row < 0 || row >= count || row >= MOST_PAST || column < 0 || column >= MOST_COLUMNS) {
                return EMPTY;
            }
            return cells[row * MOST_COLUMNS + column];
        }

        boolean isGoing(int row) {
            return row >= 0 && row < count && row < MOST_PAST && going[row];
        }

        void endLatest() {
            if (count > 0 && count <= MOST_PAST) {
                going[count - 1] = false;
            }
        }

        void clear() {
            count = 0;
        }
    }

    /** Where drawing goes on, and how; also what is saved of that. */
    private static final class Cursor {
        int row;
        int column;
        boolean isLate;
        int attribute;
        boolean isOrigin;

        void copy(Cursor from) {
            row = from.row;
            column = from.column;
            isLate = from.isLate;
            attribute = from.attribute;
            isOrigin = from.isOrigin;
        }

        void reset() {
            goTo(0, 0);
            attribute = 0;
            isOrigin = false;
        }

        void goTo(int newRow, int newColumn) {
            row = newRow;
            column = newColumn;
            isLate = false;
        }
    }

    /** The modes but ORIGIN, which is saved with the cursor, and OTHER, which the screen knows. */
    private static final class Modes {
        boolean isKeys;
        boolean isWrap = true;
        boolean isShown = true;
        boolean isMouse;
        boolean isPaste;
        boolean isInsert;

        void reset() {
            isKeys = false;
            isWrap = true;
            isShown = true;
            isMouse = false;
            isPaste = false;
            isInsert = false;
        }
    }

    /** Reads bytes in states, and tells the screen what kind of thing each of them is. */
    private static final class Reader {
        static final int NOTHING = 0;
        static final int SIGN = 1;
        static final int ONE_MARK = 2;
        static final int CONTROL = 3;
        static final int ESCAPED = 4;
        static final int CODED = 5;
        static final int MARKED = 6;
        private static final int MOST_NUMBERS = 4;

        final Bytes title = new Bytes(MOST_IN_TITLE);
        private final Bytes titleToBe = new Bytes(MOST_IN_TITLE);
        private final int[] numbers = new int[MOST_NUMBERS];
        int state = GROUND;
        int count;
        private boolean isMarked;
        private boolean isWrong;
        private boolean isBegun;

        int number(int i) {
            return i >= 0 && i < MOST_NUMBERS ? numbers[i] : 0;
        }

        int read(int b) {
            if (state == TITLE) {
                readTitle(b);
                return NOTHING;
            }
            if (b < BLANK || b == RUBOUT) {
                return readControl(b);
            }
            if (state == ESCAPE) {
                return readEscape(b);
            }
            if (state == CODE) {
                return readCode(b);
            }
            return b == MARK ? ONE_MARK : SIGN;
        }

        private int readControl(int b) {
            if (b == CANCEL) {
                state = GROUND;
                return NOTHING;
            }
            if (b == ESC) {
                state = ESCAPE;
                return NOTHING;
            }
            return CONTROL;
        }

        private int readEscape(int b) {
            if (b == '[') {
                beginCode();
                return NOTHING;
            }
            if (b == ']') {
                state = TITLE;
                titleToBe.clear();
                return NOTHING;
            }
            state = GROUND;
            return ESCAPED;
        }

        private void beginCode() {
            state = CODE;
            count = 1;
            isMarked = false;
            isWrong = false;
            isBegun = false;
            for (int i = 0; i < MOST_NUMBERS; i++) {
                numbers[i] = 0;
            }
        }

        private int readCode(int b) {
            if (b >= '@') {
                state = GROUND;
                count = Math.min(count, MOST_NUMBERS);
                if (isWrong) {
                    return NOTHING;
                }
                return isMarked ? MARKED : CODED;
            }
            if (b >= '0' && b <= '9') {
                addDigit(b - '0');
            } else if (b == ';') {
                count = Math.min(count, MOST_NUMBERS) + 1;
            } else if (b == '?' && !isBegun) {
                isMarked = true;
            } else {
                isWrong = true;
            }
            isBegun = true;
            return NOTHING;
        }

        private void addDigit(int digit) {
            int i = count - 1;
            if (i >= 0 && i < MOST_NUMBERS) {
                numbers[i] = Math.min(numbers[i] * 10 + digit, MOST_NUMBER);
            }
        }

        private void readTitle(int b) {
            if (b == RING) {
                state = GROUND;
                title.clear();
                title.addAll(titleToBe);
            } else if (b == ESC) {
                state = ESCAPE;
            } else if (b == CANCEL) {
                state = GROUND;
            } else if (b >= BLANK && b < RUBOUT) {
                titleToBe.add(b);
            }
        }
    }

    /** Two pictures, the history, the cursor and the modes, and what the bytes do to them. */
    private static final class Screen {
        // After so many the region and the history are all empty, and one more changes nothing.
        private static final int MOST_SCROLLS = MOST_ROWS + MOST_PAST;

        final Main main = new Main();
        final Cursor cursor = new Cursor();
        final Modes modes = new Modes();
        final Reader reader = new Reader();
        // Those of the screen that is played anew are never fetched, and lost when this is full.
        final Bytes answers = new Bytes(MOST_ANSWERED);
        private final Picture other = new Picture();
        private final Cursor saved = new Cursor();
        private final boolean[] tabs = new boolean[MOST_COLUMNS];
        boolean isOther;
        int rows = FIRST_ROWS;
        int columns = FIRST_COLUMNS;
        int rings;
        private int top;
        private int bottom = FIRST_ROWS - 1;

        Screen() {
            setFirstTabs(0);
        }

        Picture shown() {
            return isOther ? other : main.picture;
        }

        boolean has(int row, int column) {
            return row >= 0 && row < rows && column >= 0 && column < columns;
        }

        int tellPlaces(int what) {
            switch (what) {
                case 0: return cursor.row;
                case 1: return cursor.column;
                case 2: return cursor.isLate ? 1 : 0;
                case 3: return reader.state;
                case 4: return cursor.attribute;
                case 5: return top;
                case 6: return bottom;
                case 7: return rows;
                case 8: return columns;
                case 9: return main.history.count();
                default: return NONE;
            }
        }

        private void setFirstTabs(int from) {
            for (int column = Math.max(from, 0); column < MOST_COLUMNS; column++) {
                tabs[column] = column < columns && column % TAB_WIDTH == 0;
            }
        }

        int nextTab() {
            for (int column = cursor.column + 1; column < columns; column++) {
                if (column >= 0 && column < MOST_COLUMNS && tabs[column]) {
                    return column;
                }
            }
            return NONE;
        }

        void receive(int b) {
            switch (reader.read(b)) {
                case Reader.SIGN: drawSign(b); break;
                case Reader.ONE_MARK: addMark(); break;
                case Reader.CONTROL: control(b); break;
                case Reader.ESCAPED: escaped(b); break;
                case Reader.CODED: coded(b); break;
                case Reader.MARKED: codedWithMark(b); break;
                default: break;
            }
        }

        private void drawSign(int sign) {
            Picture picture = shown();
            int width = isWide(sign) ? 2 : 1;
            int last = columns - 1;
            boolean isCramped = width == 2 && cursor.column == last;
            if (modes.isWrap && (cursor.isLate || isCramped)) {
                if (!cursor.isLate) {
                    picture.erase(cursor.row, last, columns);
                }
                picture.setGoing(cursor.row, true);
                feed();
                cursor.column = 0;
            } else if (isCramped) {
                cursor.column = last - 1;
            }
            if (modes.isInsert) {
                picture.insert(cursor.row, cursor.column, width);
            }
            picture.erase(cursor.row, cursor.column, cursor.column + width);
            picture.put(cursor.row, cursor.column, sign + PER_ATTRIBUTE * cursor.attribute);
            if (width == 2) {
                picture.put(cursor.row, cursor.column + 1, TAIL);
            }
            cursor.column += width;
            cursor.isLate = cursor.column > last && modes.isWrap;
            cursor.column = Math.min(cursor.column, last);
        }

        private void addMark() {
            Picture picture = shown();
            int column = cursor.isLate ? cursor.column : cursor.column - 1;
            if (picture.at(cursor.row, column) == TAIL) {
                column--;
            }
            int value = picture.at(cursor.row, column);
            if (value > 0 && marksOf(value) < MOST_MARKS) {
                picture.put(cursor.row, column, value + PER_MARK);
            }
        }

        private void control(int b) {
            if (b == RING) {
                rings++;
                return;
            }
            if (b != BACK && b != TAB && b != FEED && b != RETURN) {
                return;
            }
            cursor.isLate = false;
            if (b == BACK) {
                cursor.column = Math.max(cursor.column - 1, 0);
            } else if (b == TAB) {
                int tab = nextTab();
                cursor.column = tab == NONE ? columns - 1 : tab;
            } else if (b == FEED) {
                feed();
            } else {
                cursor.column = 0;
            }
        }

        private void feed() {
            if (cursor.row == bottom) {
                scrollUp(top, bottom, true);
            } else if (cursor.row < rows - 1) {
                cursor.row++;
            }
        }

        private void scrollUp(int first, int last, boolean mayKeep) {
            Picture picture = shown();
            boolean isKept = mayKeep && first == 0 && !isOther;
            if (isKept) {
                main.history.add(picture.isGoing(0));
                for (int column = 0; column < columns; column++) {
                    main.history.putLatest(column, picture.at(0, column));
                }
            }
            picture.moveUp(first, last);
            if (!isKept) {
                endAbove(first);
            }
        }

        private void scrollDown(int first, int last) {
            shown().moveDown(first, last);
            endAbove(first);
        }

        private void endAbove(int first) {
            if (first > 0) {
                shown().setGoing(first - 1, false);
            } else if (!isOther) {
                main.history.endLatest();
            }
        }

        private void escaped(int b) {
            switch (b) {
                case '7': saved.copy(cursor); break;
                case '8': bringBack(); break;
                case 'D': cursor.isLate = false; feed(); break;
                case 'E': cursor.isLate = false; feed(); cursor.column = 0; break;
                case 'M': cursor.isLate = false; feedBack(); break;
                case 'H': setTab(cursor.column, true); break;
                case 'c': reset(); break;
                default: break;
            }
        }

        private void bringBack() {
            cursor.copy(saved);
            cursor.row = Math.min(cursor.row, rows - 1);
            cursor.column = Math.min(cursor.column, columns - 1);
            cursor.isLate = cursor.isLate && cursor.column == columns - 1 && modes.isWrap;
        }

        private void feedBack() {
            if (cursor.row == top) {
                scrollDown(top, bottom);
            } else if (cursor.row > 0) {
                cursor.row--;
            }
        }

        private void setTab(int column, boolean isOn) {
            if (column >= 0 && column < MOST_COLUMNS) {
                tabs[column] = isOn;
            }
        }

        private void reset() {
            isOther = false;
            main.picture.clear();
            other.clear();
            cursor.reset();
            saved.reset();
            modes.reset();
            top = 0;
            bottom = rows - 1;
            setFirstTabs(0);
            main.history.endLatest();
        }

        private void coded(int b) {
            if (endsLate(b)) {
                cursor.isLate = false;
            }
            int count = Math.max(reader.number(0), 1);
            switch (b) {
                case 'A': cursor.row = Math.max(cursor.row - count, 0); break;
                case 'B': cursor.row = Math.min(cursor.row + count, rows - 1); break;
                case 'C': cursor.column = Math.min(cursor.column + count, columns - 1); break;
                case 'D': cursor.column = Math.max(cursor.column - count, 0); break;
                case 'H': goTo(count, Math.max(reader.number(1), 1)); break;
                case 'J': eraseOtherRows(reader.number(0)); eraseRow(reader.number(0)); break;
                case 'K': eraseRow(reader.number(0)); break;
                case 'L': case 'M': moveLines(count, b == 'M'); break;
                case 'S': case 'T': scroll(count, b == 'S'); break;
                case '@': shown().insert(cursor.row, cursor.column, count); break;
                case 'P': shown().delete(cursor.row, cursor.column, count); break;
                case 'X': shown().erase(cursor.row, cursor.column, cursor.column + count); break;
                case 'r': setRegion(); break;
                case 'm': setAttribute(); break;
                case 'g': clearTabs(reader.number(0)); break;
                case 'n': answer(reader.number(0)); break;
                case 'h': case 'l': setInsert(b == 'h'); break;
                default: break;
            }
        }

        private static boolean endsLate(int b) {
            switch (b) {
                case 'A': case 'B': case 'C': case 'D': case 'H': case 'J': case 'K':
                case 'L': case 'M': case '@': case 'P': case 'X': case 'r':
                    return true;
                default:
                    return false;
            }
        }

        /** Counts from 1, as the codes do. */
        private void goTo(int row, int column) {
            int first = cursor.isOrigin ? top : 0;
            int last = cursor.isOrigin ? bottom : rows - 1;
            cursor.goTo(Math.min(first + row - 1, last), Math.min(column, columns) - 1);
        }

        /** What J erases but the cursor's own row. */
        private void eraseOtherRows(int how) {
            if (how == 3) {
                main.history.clear();
            }
            Picture picture = shown();
            for (int row = 0; row < rows; row++) {
                if (how == 2 || (how == 0 && row > cursor.row) || (how == 1 && row < cursor.row)) {
                    picture.clearRow(row);
                }
            }
        }

        private void eraseRow(int how) {
            if (how < 0 || how > 2) {
                return;
            }
            int from = how == 0 ? cursor.column : 0;
            int end = how == 1 ? cursor.column + 1 : columns;
            shown().erase(cursor.row, from, end);
            if (end >= columns) {
                shown().setGoing(cursor.row, false);
            }
        }

        private void moveLines(int count, boolean isUp) {
            if (cursor.row < top || cursor.row > bottom) {
                return;
            }
            int times = Math.min(count, MOST_ROWS);
            for (int i = 0; i < times; i++) {
                if (isUp) {
                    scrollUp(cursor.row, bottom, false);
                } else {
                    scrollDown(cursor.row, bottom);
                }
            }
            cursor.column = 0;
        }

        private void scroll(int count, boolean isUp) {
            int times = Math.min(count, MOST_SCROLLS);
            for (int i = 0; i < times; i++) {
                if (isUp) {
                    scrollUp(top, bottom, true);
                } else {
                    scrollDown(top, bottom);
                }
            }
        }

        private void setRegion() {
            int first = Math.max(reader.number(0), 1);
            int last = reader.number(1) == 0 ? rows : reader.number(1);
            if (first >= last || last > rows) {
                return;
            }
            top = first - 1;
            bottom = last - 1;
            goTo(1, 1);
        }

        private void setAttribute() {
            for (int i = 0; i < reader.count; i++) {
                int number = reader.number(i);
                if (number == 0) {
                    cursor.attribute = 0;
                } else if (number >= 1 && number <= 4) {
                    cursor.attribute |= 1 << (number - 1);
                } else if (number >= 21 && number <= 24) {
                    cursor.attribute &= ~(1 << (number - 21));
                }
            }
        }

        private void clearTabs(int how) {
            if (how == 0) {
                setTab(cursor.column, false);
            } else if (how == 3) {
                for (int column = 0; column < MOST_COLUMNS; column++) {
                    tabs[column] = false;
                }
            }
        }

        private void answer(int what) {
            if (what != 5 && what != 6) {
                return;
            }
            answers.add(ESC);
            answers.add('[');
            if (what == 5) {
                answers.add('0');
                answers.add('n');
                return;
            }
            int first = cursor.isOrigin ? top : 0;
            answers.addNumber(Math.max(cursor.row - first + 1, 1));
            answers.add(';');
            answers.addNumber(cursor.column + 1);
            answers.add('R');
        }

        private void setInsert(boolean isOn) {
            for (int i = 0; i < reader.count; i++) {
                if (reader.number(i) == 4) {
                    modes.isInsert = isOn;
                }
            }
        }

        private void codedWithMark(int b) {
            if (b != 'h' && b != 'l') {
                return;
            }
            for (int i = 0; i < reader.count; i++) {
                setMarkedMode(reader.number(i), b == 'h');
            }
        }

        private void setMarkedMode(int mode, boolean isOn) {
            switch (mode) {
                case 1: modes.isKeys = isOn; break;
                case 6: cursor.isOrigin = isOn; goTo(1, 1); break;
                case 7: modes.isWrap = isOn; cursor.isLate = cursor.isLate && isOn; break;
                case 25: modes.isShown = isOn; break;
                case 47: showOther(isOn); break;
                case 100: modes.isMouse = isOn; break;
                case 204: modes.isPaste = isOn; break;
                default: break;
            }
        }

        private void showOther(boolean isOn) {
            if (isOn == isOther) {
                return;
            }
            isOther = isOn;
            if (isOn) {
                saved.copy(cursor);
                other.clear();
            } else {
                bringBack();
            }
        }

        void resize(int newRows, int newColumns) {
            int oldColumns = columns;
            main.wrap(isOther ? saved : cursor, newRows, newColumns);
            other.cut(newRows, newColumns);
            rows = newRows;
            columns = newColumns;
            top = 0;
            bottom = rows - 1;
            setFirstTabs(Math.min(oldColumns, columns));
            if (isOther) {
                cursor.goTo(Math.min(cursor.row, rows - 1), Math.min(cursor.column, columns - 1));
            }
        }
    }

    /** MAIN with its history; to wrap them anew it lays all cells in one row, and marks where each new row begins. */
    private static final class Main {
        private static final int MOST_CELLS = (MOST_PAST + MOST_ROWS) * MOST_COLUMNS;
        // Each row but a paragraph's last one has three cells at least: 416 and 52 rows.
        private static final int MOST_LAID = 512;

        final Picture picture = new Picture();
        final History history = new History();
        private final int[] cells = new int[MOST_CELLS];
        private final int[] starts = new int[MOST_LAID];
        private final int[] lengths = new int[MOST_LAID];
        private final boolean[] going = new boolean[MOST_LAID];
        private int width;
        private int used;
        private int laid;
        private int cursorRow;
        private int cursorColumn;
        private boolean isDue;

        /** The cursor is the one that stays at its cell of MAIN. */
        void wrap(Cursor cursor, int rows, int columns) {
            width = columns;
            used = 0;
            laid = 0;
            isDue = false;
            int above = history.count();
            int total = above + keptRows(cursor.row);
            boolean isInside = false;
            for (int row = 0; row < total; row++) {
                if (!isInside) {
                    beginRow();
                }
                isInside = row + 1 < total && isGoing(row);
                layRow(row, isInside, row == above + cursor.row ? cursor.column : NONE);
            }
            int start = Math.min(Math.max(laid - rows, 0), cursorRow);
            putBack(rows, columns, start);
            cursor.row = cursorRow - start;
            cursor.column = cursorColumn;
            cursor.isLate = cursor.isLate && cursorColumn == width - 1;
        }

        /** Empty rows at the end of the screen, behind the cursor's one, are not kept. */
        private int keptRows(int row) {
            int last = picture.rows() - 1;
            for (int i = 0; i < MOST_ROWS && last > row && picture.filled(last) == 0; i++) {
                last--;
            }
            return last + 1;
        }

        private boolean isGoing(int row) {
            int above = history.count();
            return row < above ? history.isGoing(row) : picture.isGoing(row - above);
        }

        private int at(int row, int column) {
            int above = history.count();
            return row < above ? history.at(row, column) : picture.at(row - above, column);
        }

        private int cellsOf(int row, boolean isInside) {
            int count = picture.columns();
            if (isInside) {
                boolean isLeft = at(row, count - 1) == EMPTY && isWide(at(row + 1, 0));
                return isLeft ? count - 1 : count;
            }
            for (int i = 0; i < MOST_COLUMNS && count > 0 && at(row, count - 1) == EMPTY; i++) {
                count--;
            }
            return count;
        }

        private void layRow(int row, boolean isInside, int marked) {
            int count = cellsOf(row, isInside);
            for (int column = 0; column < count; column++) {
                int value = at(row, column);
                if (lengthOfLast() + (isWide(value) ? 2 : 1) > width) {
                    goOn();
                }
                if (column == marked || isDue) {
                    cursorRow = laid - 1;
                    cursorColumn = lengthOfLast();
                    isDue = false;
                }
                lay(value);
            }
            if (marked >= count && isInside) {
                // The cell that a wide sign had no room for is none of the paragraph: the sign is at its place.
                isDue = true;
            } else if (marked >= count) {
                cursorRow = laid - 1;
                cursorColumn = Math.min(lengthOfLast() + marked - count, width - 1);
            }
        }

        private int lengthOfLast() {
            int last = laid - 1;
            return last >= 0 && last < MOST_LAID ? lengths[last] : 0;
        }

        private void goOn() {
            int last = laid - 1;
            if (last >= 0 && last < MOST_LAID) {
                going[last] = true;
            }
            beginRow();
        }

        private void beginRow() {
            if (laid < 0 || laid >= MOST_LAID) {
                return;
            }
            starts[laid] = used;
            lengths[laid] = 0;
            going[laid] = false;
            laid++;
        }

        private void lay(int value) {
            int last = laid - 1;
            if (used < 0 || used >= MOST_CELLS || last < 0 || last >= MOST_LAID) {
                return;
            }
            cells[used] = value;
            used++;
            lengths[last]++;
        }

        private void putBack(int rows, int columns, int start) {
            history.clear();
            picture.begin(rows, columns);
            for (int i = Math.max(start - MOST_PAST, 0); i < laid && i < MOST_LAID; i++) {
                if (i < start) {
                    history.add(going[i]);
                } else {
                    picture.setGoing(i - start, going[i] && i - start < rows - 1);
                }
                for (int column = 0; column < lengths[i] && column < MOST_COLUMNS; column++) {
                    int place = starts[i] + column;
                    int value = place >= 0 && place < MOST_CELLS ? cells[place] : EMPTY;
                    if (i < start) {
                        history.putLatest(column, value);
                    } else {
                        picture.put(i - start, column, value);
                    }
                }
            }
        }
    }

    /** What is typed on its way to the program, and what is written on its way to the screen. */
    private static final class LineRule {
        private static final int INTERRUPT = 3;
        private static final int END_OF_INPUT = 4;
        private static final int START = 17;
        private static final int STOP = 19;
        private static final int ERASE_LINE = 21;
        private static final int ERASE_WORD = 23;

        final Bytes line = new Bytes(MOST_IN_LINE);
        final Bytes held = new Bytes(MOST_HELD);
        final Bytes program = new Bytes(MOST_FOR_PROGRAM);
        final Bytes arriving = new Bytes(MOST_ARRIVING);
        private boolean isRaw;
        private boolean echoes = true;
        boolean isStopped;
        int ends;
        int interrupts;

        boolean hasRoomFor(int count) {
            return !isStopped || held.room() >= count;
        }

        void bring(int b) {
            Bytes target = isStopped ? held : arriving;
            target.add(b);
        }

        void bringNumber(int number) {
            Bytes target = isStopped ? held : arriving;
            target.addNumber(number);
        }

        boolean change(boolean isRawThen, boolean echoesThen) {
            boolean wasRaw = isRaw;
            if (!wasRaw && isRawThen) {
                sendLine();
            }
            isRaw = isRawThen;
            echoes = echoesThen;
            return wasRaw;
        }

        void accept(int b) {
            if (isRaw) {
                program.add(b);
                echo(b);
                return;
            }
            switch (b) {
                case RUBOUT: takeAway(); break;
                case ERASE_WORD: takeWordAway(); break;
                case ERASE_LINE: takeLineAway(); break;
                case FEED: case RETURN: endLine(); break;
                case END_OF_INPUT: endInput(); break;
                case INTERRUPT: line.clear(); interrupts++; break;
                case STOP: isStopped = true; break;
                case START: start(); break;
                default: addToLine(b); break;
            }
        }

        private void echo(int b) {
            Bytes target = isStopped ? held : arriving;
            if (echoes) {
                target.add(b);
            }
        }

        private void takeAway() {
            if (line.count() == 0) {
                return;
            }
            int times = line.removeLast() < BLANK ? 2 : 1;
            for (int i = 0; i < times; i++) {
                echo(BACK);
                echo(BLANK);
                echo(BACK);
            }
        }

        private void takeWordAway() {
            for (int i = 0; i < MOST_IN_LINE && line.last() == BLANK; i++) {
                takeAway();
            }
            for (int i = 0; i < MOST_IN_LINE && line.count() > 0 && line.last() != BLANK; i++) {
                takeAway();
            }
        }

        private void takeLineAway() {
            for (int i = 0; i < MOST_IN_LINE && line.count() > 0; i++) {
                takeAway();
            }
        }

        private void sendLine() {
            program.addAll(line);
        }

        private void endLine() {
            sendLine();
            program.add(FEED);
            echo(RETURN);
            echo(FEED);
        }

        private void endInput() {
            if (line.count() == 0) {
                ends++;
            }
            sendLine();
        }

        private void start() {
            isStopped = false;
            arriving.addAll(held);
        }

        private void addToLine(int b) {
            if (!line.add(b)) {
                echo(RING);
                return;
            }
            if (b < BLANK) {
                echo('^');
                echo(b + 64);
            } else {
                echo(b);
            }
        }
    }

    /** The record of all that came to the screen; it is played on from where the last playing ended. */
    private static final class Tape {
        // 512 calls bring less than 20000 bytes.
        private static final int MOST_NOTES = 65536;
        private static final int FIRST_NOTES = 1024;
        private static final int SIZE = 128;
        private static final int PER_ROW = 32;

        private int[] notes = new int[FIRST_NOTES];
        private int count;
        private int played;

        void noteByte(int b) {
            note(b);
        }

        void noteSize(int rows, int columns) {
            note(SIZE + rows * PER_ROW + columns);
        }

        private void note(int what) {
            if (count >= notes.length && notes.length < MOST_NOTES) {
                notes = Arrays.copyOf(notes, notes.length * 2);
            }
            if (count >= 0 && count < notes.length) {
                notes[count] = what;
                count++;
            }
        }

        void playOn(Screen screen) {
            for (int i = Math.max(played, 0); i < count && i < notes.length; i++) {
                int what = notes[i];
                if (what < SIZE) {
                    screen.receive(what);
                } else {
                    screen.resize((what - SIZE) / PER_ROW, (what - SIZE) % PER_ROW);
                }
            }
            played = count;
        }
    }

    /** The picture at the far end of a slow line, and what it costs to make a row of it like another. */
    private static final class SlowLine {
        private static final int GOING = 6;
        private static final int PASSING = 4;
        private static final int ERASING = 3;
        private static final int NEW_ATTRIBUTE = 4;
        private static final int FAR_TOO_MUCH = 1000000;

        final Picture drawn = new Picture();
        private final int[] costs = new int[(MOST_COLUMNS + 1) * ATTRIBUTES];
        private final boolean[] isLike = new boolean[MOST_COLUMNS];

        void begin(int rows, int columns) {
            drawn.begin(rows, columns);
        }

        int costsOf(Picture picture, int row) {
            int columns = picture.columns();
            int likeFrom = compare(picture, row);
            if (likeFrom == 0) {
                return 0;
            }
            int emptyFrom = picture.filled(row);
            for (int column = columns; column >= 0; column--) {
                for (int attribute = 0; attribute < ATTRIBUTES; attribute++) {
                    int least = FAR_TOO_MUCH;
                    if (column >= likeFrom) {
                        least = 0;
                    } else if (picture.at(row, column) != TAIL) {
                        least = Math.min(writing(picture.at(row, column), column, attribute),
                                passing(picture, row, column, attribute));
                        least = column >= emptyFrom ? Math.min(least, ERASING) : least;
                    }
                    keepCosts(column, attribute, least);
                }
            }
            return GOING + beginning(columns);
        }

        /** Returns the first column from which on all cells are like. */
        private int compare(Picture picture, int row) {
            int from = 0;
            for (int column = 0; column < picture.columns() && column < MOST_COLUMNS; column++) {
                isLike[column] = picture.at(row, column) == drawn.at(row, column);
                from = isLike[column] ? from : column + 1;
            }
            return from;
        }

        private boolean isLikeAt(int column) {
            return column >= 0 && column < MOST_COLUMNS && isLike[column];
        }

        private void keepCosts(int column, int attribute, int value) {
            int place = column * ATTRIBUTES + attribute;
            if (place >= 0 && place < costs.length) {
                costs[place] = value;
            }
        }

        private int costsFrom(int column, int attribute) {
            int place = column * ATTRIBUTES + attribute;
            return place >= 0 && place < costs.length ? costs[place] : FAR_TOO_MUCH;
        }

        private int writing(int value, int column, int attribute) {
            int next = column + (isWide(value) ? 2 : 1);
            int change = attributeOf(value) == attribute ? 0 : NEW_ATTRIBUTE;
            return 1 + marksOf(value) + change + costsFrom(next, attributeOf(value));
        }

        private int passing(Picture picture, int row, int column, int attribute) {
            int least = FAR_TOO_MUCH;
            for (int next = column + 1; next < picture.columns() && isLikeAt(next - 1); next++) {
                if (picture.at(row, next) != TAIL) {
                    least = Math.min(least, PASSING + costsFrom(next, attribute));
                }
            }
            return least;
        }

        /** The cell to go to is the first unlike one, or one ahead of it; no tail, as that goes with its sign. */
        private int beginning(int columns) {
            int least = FAR_TOO_MUCH;
            for (int column = 0; column < columns; column++) {
                least = Math.min(least, costsFrom(column, 0));
                if (!isLikeAt(column)) {
                    return least;
                }
            }
            return least;
        }
    }
}
