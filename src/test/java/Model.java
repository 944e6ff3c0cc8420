import java.util.ArrayList;
import java.util.HashMap;
import java.util.List;
import java.util.Map;

/**
 * The document once more, as slow and as plain as can be, to be compared with the class: cells are objects, a wide
 * sign knows its tail, and what is parted from its other half is found by looking at all cells afterwards.
 */
final class Model {
    /** A cell; an empty one has the sign 0, a tail knows whose it is. */
    private static final class Cell {
        int sign;
        int attribute;
        int marks;
        Cell head;
        Cell tail;

        int value() {
            if (head != null) {
                return -2;
            }
            return sign == 0 ? 0 : sign + 1000 * attribute + 100000 * marks;
        }

        boolean isEmpty() {
            return value() == 0;
        }
    }

    private static final class Row {
        final List<Cell> cells = new ArrayList<>();
        boolean goes;

        Row(int columns) {
            fill(columns);
        }

        void fill(int columns) {
            while (cells.size() < columns) {
                cells.add(new Cell());
            }
            while (cells.size() > columns) {
                cells.remove(cells.size() - 1);
            }
        }

        boolean isEmpty() {
            return used() == 0;
        }

        int used() {
            int used = 0;
            for (int i = 0; i < cells.size(); i++) {
                if (!cells.get(i).isEmpty()) {
                    used = i + 1;
                }
            }
            return used;
        }

        /** What has lost its other half becomes empty. */
        void mend() {
            boolean changed = true;
            while (changed) {
                changed = false;
                for (int i = 0; i < cells.size(); i++) {
                    Cell c = cells.get(i);
                    boolean lostTail = c.tail != null && (i + 1 >= cells.size() || cells.get(i + 1) != c.tail);
                    boolean lostHead = c.head != null && (i == 0 || cells.get(i - 1) != c.head);
                    if (lostTail || lostHead) {
                        cells.set(i, new Cell());
                        changed = true;
                    }
                }
            }
        }
    }

    private static final class Saved {
        int row;
        int column;
        boolean late;
        int attribute;
        boolean origin;
    }

    /** What the bytes draw on; it is also what is made again by cellAnew. */
    private static final class Screen {
        int rows = 6;
        int columns = 12;
        List<Row> main = empty();
        List<Row> other = empty();
        List<Row> history = new ArrayList<>();
        boolean isOther;
        Saved cursor = new Saved();
        Saved saved = new Saved();
        int top;
        int bottom = 5;
        boolean keys;
        boolean wrap = true;
        boolean shown = true;
        boolean mouse;
        boolean paste;
        boolean insert;
        List<Integer> tabs = new ArrayList<>(List.of(0, 4, 8));
        int rings;
        String title = "";
        String state = "GROUND";
        String text = "";
        List<Integer> sent = new ArrayList<>();

        List<Row> empty() {
            List<Row> picture = new ArrayList<>();
            for (int i = 0; i < rows; i++) {
                picture.add(new Row(columns));
            }
            return picture;
        }

        List<Row> picture() {
            return isOther ? other : main;
        }

        Row row() {
            return picture().get(cursor.row);
        }

        int nextTab() {
            int next = -1;
            for (int tab : tabs) {
                if (tab > cursor.column && (next == -1 || tab < next)) {
                    next = tab;
                }
            }
            return next;
        }

        void read(int b) {
            if (state.equals("TITLE")) {
                inTitle(b);
            } else if (b < 32 || b == 127) {
                control(b);
            } else if (state.equals("GROUND")) {
                if (b == 96) {
                    mark();
                } else {
                    sign(b);
                }
            } else if (state.equals("ESCAPE")) {
                escape((char) b);
            } else if (b < 64) {
                text += (char) b;
            } else {
                state = "GROUND";
                meaning((char) b);
            }
        }

        void inTitle(int b) {
            if (b == 7) {
                title = text;
                state = "GROUND";
            } else if (b == 27) {
                state = "ESCAPE";
            } else if (b == 24) {
                state = "GROUND";
            } else if (b >= 32 && b <= 126 && text.length() < 16) {
                text += (char) b;
            }
        }

        void control(int b) {
            switch (b) {
                case 7 -> rings++;
                case 8 -> {
                    cursor.column = cursor.column == 0 ? 0 : cursor.column - 1;
                    cursor.late = false;
                }
                case 9 -> {
                    cursor.column = nextTab() == -1 ? columns - 1 : nextTab();
                    cursor.late = false;
                }
                case 10 -> {
                    feed();
                    cursor.late = false;
                }
                case 13 -> {
                    cursor.column = 0;
                    cursor.late = false;
                }
                case 24 -> state = "GROUND";
                case 27 -> state = "ESCAPE";
                default -> {
                }
            }
        }

        void mark() {
            int column = cursor.late ? cursor.column : cursor.column - 1;
            if (column < 0) {
                return;
            }
            Cell c = row().cells.get(column);
            if (c.head != null) {
                c = c.head;
            }
            if (c.sign != 0 && c.marks < 3) {
                c.marks++;
            }
        }

        void sign(int b) {
            int width = b >= 'A' && b <= 'Z' ? 2 : 1;
            boolean hasNoRoom = width == 2 && cursor.column == columns - 1;
            if (wrap && (cursor.late || hasNoRoom)) {
                if (!cursor.late) {
                    row().cells.set(columns - 1, new Cell());
                    row().mend();
                }
                row().goes = true;
                feed();
                cursor.column = 0;
            }
            int column = Math.min(cursor.column, columns - width);
            if (insert) {
                shift(column, width);
            }
            Cell c = new Cell();
            c.sign = b;
            c.attribute = cursor.attribute;
            row().cells.set(column, c);
            if (width == 2) {
                c.tail = new Cell();
                c.tail.head = c;
                row().cells.set(column + 1, c.tail);
            }
            row().mend();
            cursor.late = wrap && column + width == columns;
            cursor.column = Math.min(column + width, columns - 1);
        }

        void shift(int column, int n) {
            for (int i = 0; i < n; i++) {
                row().cells.add(column, new Cell());
                row().cells.remove(columns);
            }
            row().mend();
        }

        void feed() {
            if (cursor.row == bottom) {
                up(top, bottom, true);
            } else if (cursor.row + 1 < rows) {
                cursor.row++;
            }
        }

        void up(int first, int last, boolean toHistory) {
            Row gone = picture().remove(first);
            picture().add(last, new Row(columns));
            if (toHistory && first == 0 && !isOther) {
                history.add(gone);
                if (history.size() > 40) {
                    history.remove(0);
                }
            } else {
                endAbove(first);
            }
        }

        void down(int first, int last) {
            picture().remove(last);
            picture().add(first, new Row(columns));
            picture().get(last).goes = false;
            endAbove(first);
        }

        void endAbove(int first) {
            if (first > 0) {
                picture().get(first - 1).goes = false;
            } else if (!isOther && !history.isEmpty()) {
                history.get(history.size() - 1).goes = false;
            }
        }

        void escape(char b) {
            if (b == '[') {
                state = "CODE";
                text = "";
                return;
            }
            if (b == ']') {
                state = "TITLE";
                text = "";
                return;
            }
            state = "GROUND";
            if (b == 'D' || b == 'E' || b == 'M') {
                cursor.late = false;
            }
            switch (b) {
                case '7' -> save();
                case '8' -> back();
                case 'D' -> feed();
                case 'E' -> {
                    feed();
                    cursor.column = 0;
                }
                case 'M' -> {
                    if (cursor.row == top) {
                        down(top, bottom);
                    } else {
                        cursor.row = Math.max(0, cursor.row - 1);
                    }
                }
                case 'H' -> {
                    if (!tabs.contains(cursor.column)) {
                        tabs.add(cursor.column);
                    }
                }
                case 'c' -> reset();
                default -> {
                }
            }
        }

        void save() {
            saved = new Saved();
            saved.row = cursor.row;
            saved.column = cursor.column;
            saved.late = cursor.late;
            saved.attribute = cursor.attribute;
            saved.origin = cursor.origin;
        }

        void back() {
            cursor = new Saved();
            cursor.row = Math.min(saved.row, rows - 1);
            cursor.column = Math.min(saved.column, columns - 1);
            cursor.late = saved.late && wrap && cursor.column == columns - 1;
            cursor.attribute = saved.attribute;
            cursor.origin = saved.origin;
        }

        void reset() {
            isOther = false;
            main = empty();
            other = empty();
            cursor = new Saved();
            saved = new Saved();
            top = 0;
            bottom = rows - 1;
            keys = false;
            wrap = true;
            shown = true;
            mouse = false;
            paste = false;
            insert = false;
            tabs.clear();
            for (int i = 0; i < columns; i += 4) {
                tabs.add(i);
            }
            endAbove(0);
        }

        void meaning(char b) {
            boolean marked = text.startsWith("?");
            String rest = marked ? text.substring(1) : text;
            if (!rest.matches("[0-9;]*")) {
                return;
            }
            List<Integer> numbers = new ArrayList<>();
            for (String part : rest.split(";", -1)) {
                int number = 0;
                for (char d : part.toCharArray()) {
                    number = Math.min(999, number * 10 + (d - '0'));
                }
                if (numbers.size() < 4) {
                    numbers.add(number);
                }
            }
            if (marked) {
                if (b == 'h' || b == 'l') {
                    for (int number : numbers) {
                        mode(number, b == 'h');
                    }
                }
                return;
            }
            if ("ABCDHJKLM@PXr".indexOf(b) >= 0) {
                cursor.late = false;
            }
            int first = numbers.get(0);
            int second = numbers.size() > 1 ? numbers.get(1) : 0;
            changes(b, first, second, first == 0 ? 1 : first);
            settings(b, numbers, first);
        }

        void changes(char b, int first, int second, int n) {
            switch (b) {
                case 'A' -> cursor.row = Math.max(0, cursor.row - n);
                case 'B' -> cursor.row = Math.min(rows - 1, cursor.row + n);
                case 'C' -> cursor.column = Math.min(columns - 1, cursor.column + n);
                case 'D' -> cursor.column = Math.max(0, cursor.column - n);
                case 'H' -> place(n, second == 0 ? 1 : second);
                case 'J' -> eraseScreen(first);
                case 'K' -> eraseRow(first);
                case 'L', 'M' -> {
                    if (cursor.row >= top && cursor.row <= bottom) {
                        for (int i = 0; i < n; i++) {
                            if (b == 'L') {
                                down(cursor.row, bottom);
                            } else {
                                up(cursor.row, bottom, false);
                            }
                        }
                        cursor.column = 0;
                    }
                }
                case 'S' -> {
                    for (int i = 0; i < n; i++) {
                        up(top, bottom, true);
                    }
                }
                case 'T' -> {
                    for (int i = 0; i < n; i++) {
                        down(top, bottom);
                    }
                }
                case '@' -> shift(cursor.column, n);
                case 'P' -> {
                    for (int i = 0; i < n; i++) {
                        row().cells.remove(cursor.column);
                        row().cells.add(new Cell());
                    }
                    row().mend();
                }
                case 'X' -> erase(row(), cursor.column, Math.min(columns, cursor.column + n));
                case 'r' -> region(n, second == 0 ? rows : second);
                default -> {
                }
            }
        }

        void settings(char b, List<Integer> numbers, int first) {
            if (b == 'm') {
                for (int number : numbers) {
                    attribute(number);
                }
            } else if (b == 'g') {
                if (first == 0) {
                    tabs.remove((Integer) cursor.column);
                } else if (first == 3) {
                    tabs.clear();
                }
            } else if (b == 'n' && first == 5) {
                send("\u001b[0n");
            } else if (b == 'n' && first == 6) {
                int row = cursor.origin ? Math.max(1, cursor.row - top + 1) : cursor.row + 1;
                send("\u001b[" + row + ";" + (cursor.column + 1) + "R");
            } else if ((b == 'h' || b == 'l') && numbers.contains(4)) {
                insert = b == 'h';
            }
        }

        void send(String bytes) {
            for (char b : bytes.toCharArray()) {
                sent.add((int) b);
            }
        }

        void attribute(int number) {
            int[] values = {1, 2, 4, 8};
            if (number == 0) {
                cursor.attribute = 0;
            }
            for (int i = 0; i < 4; i++) {
                boolean has = cursor.attribute / values[i] % 2 == 1;
                if (number == i + 1 && !has) {
                    cursor.attribute += values[i];
                } else if (number == i + 21 && has) {
                    cursor.attribute -= values[i];
                }
            }
        }

        /** Row and column from 1 on. */
        void place(int row, int column) {
            int row0 = cursor.origin ? Math.min(bottom, top + row - 1) : Math.min(rows - 1, row - 1);
            cursor.row = row0;
            cursor.column = Math.min(columns - 1, column - 1);
        }

        void erase(Row row, int from, int end) {
            for (int i = from; i < end; i++) {
                row.cells.set(i, new Cell());
            }
            row.mend();
        }

        void eraseAll(Row row) {
            erase(row, 0, columns);
            row.goes = false;
        }

        void eraseRow(int how) {
            if (how == 0) {
                erase(row(), cursor.column, columns);
                row().goes = false;
            } else if (how == 1) {
                erase(row(), 0, cursor.column + 1);
                if (cursor.column == columns - 1) {
                    row().goes = false;
                }
            } else if (how == 2) {
                eraseAll(row());
            }
        }

        void eraseScreen(int how) {
            if (how == 3) {
                history.clear();
            } else if (how == 2) {
                picture().forEach(this::eraseAll);
            } else if (how == 1) {
                picture().subList(0, cursor.row).forEach(this::eraseAll);
                eraseRow(1);
            } else if (how == 0) {
                picture().subList(cursor.row + 1, rows).forEach(this::eraseAll);
                eraseRow(0);
            }
        }

        void region(int first, int last) {
            if (first < last && first <= rows && last <= rows) {
                top = first - 1;
                bottom = last - 1;
                place(1, 1);
            }
        }

        void mode(int number, boolean on) {
            switch (number) {
                case 1 -> keys = on;
                case 6 -> {
                    cursor.origin = on;
                    cursor.late = false;
                    place(1, 1);
                }
                case 7 -> {
                    wrap = on;
                    if (!on) {
                        cursor.late = false;
                    }
                }
                case 25 -> shown = on;
                case 47 -> {
                    if (on && !isOther) {
                        save();
                        other = empty();
                        isOther = true;
                    } else if (!on && isOther) {
                        isOther = false;
                        back();
                    }
                }
                case 100 -> mouse = on;
                case 204 -> paste = on;
                default -> {
                }
            }
        }

        // ---- sizes

        void size(int newRows, int newColumns) {
            Saved staying = isOther ? saved : cursor;
            List<Row> laid = new ArrayList<>();
            int cursorRow = -1;
            int cursorColumn = -1;
            List<Row> all = new ArrayList<>(history);
            int end = rows;
            while (end - 1 > staying.row && main.get(end - 1).isEmpty()) {
                end--;
            }
            all.addAll(main.subList(0, end));
            int cursorIn = history.size() + staying.row;
            for (int i = 0; i < all.size(); ) {
                int last = i;
                while (all.get(last).goes && last + 1 < all.size()) {
                    last++;
                }
                List<Cell> cells = new ArrayList<>();
                int at = -1;
                for (int k = i; k <= last; k++) {
                    Row row = all.get(k);
                    int used = k == last ? row.used() : columns;
                    if (k < last && row.cells.get(columns - 1).isEmpty() && all.get(k + 1).cells.get(0).tail != null) {
                        used--;
                    }
                    if (k == cursorIn) {
                        at = cells.size() + staying.column;
                        at = k < last ? Math.min(at, cells.size() + used) : at;
                    }
                    cells.addAll(row.cells.subList(0, used));
                }
                int begin = laid.size();
                Map<Cell, int[]> places = lay(cells, laid, newColumns);
                laid.get(laid.size() - 1).goes = false;
                if (at >= 0 && at < cells.size()) {
                    cursorRow = places.get(cells.get(at))[0];
                    cursorColumn = places.get(cells.get(at))[1];
                } else if (at >= 0) {
                    cursorRow = laid.size() - 1;
                    int behind = at - (cells.size() - 1);
                    int lastColumn = cells.isEmpty() ? -1 : places.get(cells.get(cells.size() - 1))[1];
                    cursorColumn = Math.min(newColumns - 1, lastColumn + behind);
                }
                if (begin == laid.size()) {
                    throw new AssertionError("a paragraph without a row");
                }
                i = last + 1;
            }
            place(laid, staying, cursorRow, cursorColumn, newRows, newColumns);
            resizeRest(newRows, newColumns);
        }

        Map<Cell, int[]> lay(List<Cell> cells, List<Row> laid, int width) {
            Map<Cell, int[]> places = new HashMap<>();
            Row row = new Row(width);
            laid.add(row);
            int column = 0;
            for (Cell c : cells) {
                if (column == width || (c.tail != null && column == width - 1)) {
                    row.goes = true;
                    row = new Row(width);
                    laid.add(row);
                    column = 0;
                }
                row.cells.set(column, c);
                places.put(c, new int[] {laid.size() - 1, column});
                column++;
            }
            return places;
        }

        void place(List<Row> laid, Saved staying, int cursorRow, int cursorColumn, int newRows, int newColumns) {
            int start = Math.min(cursorRow, Math.max(0, laid.size() - newRows));
            history = new ArrayList<>(laid.subList(Math.max(0, start - 40), start));
            main = new ArrayList<>(laid.subList(start, Math.min(laid.size(), start + newRows)));
            while (main.size() < newRows) {
                main.add(new Row(newColumns));
            }
            main.get(newRows - 1).goes = false;
            staying.late = staying.late && cursorColumn == newColumns - 1;
            staying.row = cursorRow - start;
            staying.column = cursorColumn;
        }

        void resizeRest(int newRows, int newColumns) {
            other = new ArrayList<>(other.subList(0, Math.min(rows, newRows)));
            for (Row row : other) {
                row.fill(newColumns);
                row.mend();
            }
            while (other.size() < newRows) {
                other.add(new Row(newColumns));
            }
            other.get(newRows - 1).goes = false;
            tabs.removeIf(tab -> tab >= newColumns);
            for (int i = columns; i < newColumns; i++) {
                if (i % 4 == 0) {
                    tabs.add(i);
                }
            }
            rows = newRows;
            columns = newColumns;
            top = 0;
            bottom = rows - 1;
            if (isOther) {
                cursor.row = Math.min(cursor.row, rows - 1);
                cursor.column = Math.min(cursor.column, columns - 1);
                cursor.late = false;
            }
        }

        int[] values(int row) {
            return picture().get(row).cells.stream().mapToInt(Cell::value).toArray();
        }
    }

    private Screen screen = new Screen();
    private final List<int[]> record = new ArrayList<>();
    private final List<Integer> program = new ArrayList<>();
    private final List<Integer> held = new ArrayList<>();
    private String line = "";
    private final List<Integer> toPaste = new ArrayList<>();
    private boolean raw;
    private boolean echo = true;
    private boolean stopped;
    private int ends;
    private int interrupts;
    private int[][] slow = new int[6][12];

    private static void argument(boolean isRight) {
        if (!isRight) {
            throw new IllegalArgumentException();
        }
    }

    private static void state(boolean isRight) {
        if (!isRight) {
            throw new IllegalStateException();
        }
    }

    private static void bounds(boolean isRight) {
        if (!isRight) {
            throw new IndexOutOfBoundsException();
        }
    }

    private void come(int b) {
        record.add(new int[] {b});
        screen.read(b);
        screen.sent.forEach(this::forProgram);
        screen.sent.clear();
    }

    private void written(int b) {
        if (!stopped) {
            come(b);
        } else if (held.size() < 100) {
            held.add(b);
        }
    }

    private void forProgram(int b) {
        if (program.size() < 200) {
            program.add(b);
        }
    }

    int write(int b) {
        argument(b >= 0 && b <= 127);
        state(!stopped || held.size() < 100);
        written(b);
        return held.size();
    }

    int code(boolean isMarked, int one, int two, int b) {
        argument(one >= 0 && one <= 999 && two >= 0 && two <= 999 && b >= 64 && b <= 126);
        String bytes = "\u001b[" + (isMarked ? "?" : "") + one + (two == 0 ? "" : ";" + two) + (char) b;
        state(!stopped || held.size() + bytes.length() <= 100);
        bytes.chars().forEach(this::written);
        return held.size();
    }

    int type(int b) {
        argument(b >= 0 && b <= 127);
        typed(b);
        return raw ? 0 : line.length();
    }

    private void echo(String bytes) {
        if (echo) {
            bytes.chars().forEach(this::written);
        }
    }

    private void lineGoes() {
        line.chars().forEach(this::forProgram);
        line = "";
    }

    private void away(int count) {
        for (int i = 0; i < count; i++) {
            char last = line.charAt(line.length() - 1);
            line = line.substring(0, line.length() - 1);
            echo(last < 32 ? "\b \b\b \b" : "\b \b");
        }
    }

    private void typed(int b) {
        if (raw) {
            forProgram(b);
            echo("" + (char) b);
        } else if (b == 127) {
            away(Math.min(1, line.length()));
        } else if (b == 23) {
            String rest = line.replaceAll(" *$", "");
            int keep = rest.lastIndexOf(' ') + 1;
            away(line.length() - keep);
        } else if (b == 21) {
            away(line.length());
        } else if (b == 10 || b == 13) {
            lineGoes();
            forProgram(10);
            echo("\r\n");
        } else if (b == 4) {
            if (line.isEmpty()) {
                ends++;
            }
            lineGoes();
        } else if (b == 3) {
            line = "";
            interrupts++;
        } else if (b == 19) {
            stopped = true;
        } else if (b == 17) {
            stopped = false;
            List<Integer> coming = new ArrayList<>(held);
            held.clear();
            coming.forEach(this::come);
        } else if (line.length() < 30) {
            line += (char) b;
            echo(b < 32 ? "^" + (char) (b + 64) : "" + (char) b);
        } else {
            echo("\u0007");
        }
    }

    private int typeAll(String bytes) {
        bytes.chars().forEach(this::typed);
        return bytes.length();
    }

    int key(int key, int modifiers) {
        argument(key >= 0 && key <= 6 && modifiers >= 0 && modifiers <= 7);
        if (key == 6) {
            return typeAll(modifiers == 0 ? "\u001b[3~" : "\u001b[3;" + (modifiers + 1) + "~");
        }
        char letter = "ABCDHF".charAt(key);
        if (modifiers > 0) {
            return typeAll("\u001b[1;" + (modifiers + 1) + letter);
        }
        return typeAll((screen.keys ? "\u001bO" : "\u001b[") + letter);
    }

    int draft(int b) {
        argument(b >= 1 && b <= 126);
        state(toPaste.size() < 40);
        toPaste.add(b);
        return toPaste.size();
    }

    int paste() {
        StringBuilder bytes = new StringBuilder();
        for (int b : toPaste) {
            bytes.append(b == 27 ? "" : (char) b);
        }
        toPaste.clear();
        return typeAll(screen.paste ? "\u001b[200~" + bytes + "\u001b[201~" : bytes.toString());
    }

    int mouse(int button, int row, int column) {
        bounds(row >= 0 && row < screen.rows && column >= 0 && column < screen.columns);
        argument(button >= 0 && button <= 2);
        return screen.mouse ? typeAll("\u001b[<" + button + ";" + (column + 1) + ";" + (row + 1) + "M") : 0;
    }

    boolean rule(boolean isRaw, boolean echoes) {
        boolean was = raw;
        if (!was && isRaw) {
            lineGoes();
        }
        raw = isRaw;
        echo = echoes;
        return was;
    }

    int take() {
        return program.isEmpty() ? -1 : program.remove(0);
    }

    int size(int rows, int columns) {
        argument(rows >= 2 && rows <= 12 && columns >= 4 && columns <= 24);
        record.add(new int[] {rows, columns});
        screen.size(rows, columns);
        slow = new int[rows][columns];
        return screen.history.size();
    }

    int draw() {
        int costs = 0;
        for (int row = 0; row < screen.rows; row++) {
            costs += least(row);
            slow[row] = screen.values(row);
        }
        return costs;
    }

    int cell(int row, int column) {
        bounds(row >= 0 && row < screen.rows && column >= 0 && column < screen.columns);
        return screen.values(row)[column];
    }

    int cellAnew(int row, int column) {
        bounds(row >= 0 && row < screen.rows && column >= 0 && column < screen.columns);
        Screen anew = new Screen();
        for (int[] step : record) {
            if (step.length == 1) {
                anew.read(step[0]);
            } else {
                anew.size(step[0], step[1]);
            }
        }
        return anew.values(row)[column];
    }

    int past(int row, int column) {
        bounds(row >= 0 && row < screen.history.size() && column >= 0 && column < screen.columns);
        return screen.history.get(row).cells.get(column).value();
    }

    boolean goesOn(int row) {
        int above = screen.history.size();
        bounds(row >= -above && row < screen.rows);
        return row < 0 ? screen.history.get(above + row).goes : screen.picture().get(row).goes;
    }

    int title(int place) {
        bounds(place >= 0 && place < screen.title.length());
        return screen.title.charAt(place);
    }

    int least(int row) {
        bounds(row >= 0 && row < screen.rows);
        int[] want = screen.values(row);
        int[] have = slow[row];
        if (java.util.Arrays.equals(want, have)) {
            return 0;
        }
        int least = Integer.MAX_VALUE;
        for (int start = 0; start < want.length; start++) {
            if (want[start] != -2) {
                least = Math.min(least, 6 + onFrom(want, have, start, 0, new HashMap<>()));
            }
            if (want[start] != have[start]) {
                break;
            }
        }
        return least;
    }

    /** The least costs from a place on, with the attribute that was written last. */
    private static int onFrom(int[] want, int[] have, int at, int attribute, Map<Integer, Integer> known) {
        boolean isLike = true;
        boolean isEmpty = true;
        for (int i = at; i < want.length; i++) {
            isLike = isLike && want[i] == have[i];
            isEmpty = isEmpty && want[i] == 0;
        }
        if (isLike) {
            return 0;
        }
        Integer before = known.get(at * 16 + attribute);
        if (before != null) {
            return before;
        }
        int mine = want[at] / 1000 % 100;
        int width = at + 1 < want.length && want[at + 1] == -2 ? 2 : 1;
        int least = 1 + want[at] / 100000 + (mine == attribute ? 0 : 4) + onFrom(want, have, at + width, mine, known);
        if (isEmpty) {
            least = Math.min(least, 3);
        }
        for (int next = at + 1; next < want.length && want[next - 1] == have[next - 1]; next++) {
            if (want[next] != -2) {
                least = Math.min(least, 4 + onFrom(want, have, next, attribute, known));
            }
        }
        known.put(at * 16 + attribute, least);
        return least;
    }

    int told(int what) {
        argument(what >= 0 && what <= 20);
        int state = List.of("GROUND", "ESCAPE", "CODE", "TITLE").indexOf(screen.state);
        int[] all = {screen.cursor.row, screen.cursor.column, screen.cursor.late ? 1 : 0, state, screen.cursor.attribute,
            screen.top, screen.bottom, screen.rows, screen.columns, screen.history.size(), screen.rings,
            screen.isOther ? 1 : 0, stopped ? 1 : 0, held.size(), line.length(), program.size(), ends, interrupts,
            screen.shown ? 1 : 0, screen.title.length(), screen.nextTab()};
        return all[what];
    }
}
