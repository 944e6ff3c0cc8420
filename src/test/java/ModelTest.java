import java.util.ArrayList;
import java.util.List;
import java.util.Random;

/**
 * Random runs on the class and on the model: each answer is compared, and all that can be asked behind some calls.
 * Arguments: the first seed and how many runs.
 */
public final class ModelTest {
    private static final int CALLS = 512;
    private static final String[] PIECES = {
        "#c", "abcdefghijkl", "xYz", "AB", "`", "``", "\r\n", "\n\n\n", "\t", "\b\b", "#7", "#8", "#D", "#E", "#M", "#H",
        "#[A", "#[2B", "#[3C", "#[2D", "#[H", "#[;9H", "#[99;99H", "#[J", "#[1J", "#[2J", "#[K", "#[1K", "#[2K",
        "#[L", "#[2M", "#[M", "#[S", "#[2T", "#[@", "#[3P", "#[2X", "#[2;4r", "#[1;3r", "#[3;r", "#[r", "#[1;2m", "#[m",
        "#[3;24;22m", "#[g", "#[?6h", "#[?6l", "#[?7l", "#[?7h", "#[?47h", "#[?47l", "#[4h", "#[4l", "#[5n", "#[6n",
        "#[?1h", "#[?25;204h", "#[?100h", "#]title\u0007", "#]no#", "#[1;2;3;4;5m", "#[?2?5h", "#[ q", "#[3:4m", "\u0018",
        "#[1;24H", "#[99;12Hq", "#[1;12HQ", "#[99C", "abcdefghijklmnopqrstuvwxyz", "ABCDEFGHIJKLMNOP", "m n o"};
    private static final int[] TYPED = {3, 4, 10, 13, 17, 17, 17, 19, 21, 23, 127, 127, 32, 27, 1, 9, 'a', 'B', 'c', '`'};

    private interface IntCall {
        int make();
    }

    private final Random random;
    private final InputrowConsole x = new InputrowConsole();
    private final Model model = new Model();
    private final List<String> calls = new ArrayList<>();
    private int count;
    private boolean isWrong;

    private ModelTest(long seed) {
        random = new Random(seed);
    }

    public static void main(String[] args) {
        long first = args.length > 0 ? Long.parseLong(args[0]) : 1;
        long runs = args.length > 1 ? Long.parseLong(args[1]) : 1500;
        int wrong = 0;
        for (long seed = first; seed < first + runs && wrong < 3; seed++) {
            ModelTest run = new ModelTest(seed);
            run.run();
            if (run.isWrong) {
                wrong++;
                System.out.println("seed " + seed + ": " + String.join("; ", run.calls));
            }
        }
        Check.due("runs that are wrong", wrong, 0);
        Check.end();
    }

    private void run() {
        int style = random.nextInt(4);
        while (count < CALLS && !isWrong) {
            step(style);
            if (style == 0 || random.nextInt(8) == 0) {
                lookAtAll();
            }
        }
        lookAtAll();
    }

    private void same(String call, IntCall mine, IntCall due) {
        if (isWrong) {
            return;
        }
        String a = answer(mine);
        String b = answer(due);
        if (!a.equals(b)) {
            isWrong = true;
            calls.add(call + " answered " + a + ", due is " + b);
        }
    }

    private static String answer(IntCall call) {
        try {
            return "" + call.make();
        } catch (IllegalArgumentException | IllegalStateException | IndexOutOfBoundsException e) {
            return e.getClass().getSimpleName();
        }
    }

    private void call(String name, IntCall mine, IntCall due) {
        count++;
        calls.add(name);
        same(name, mine, due);
    }

    private void step(int style) {
        int what = random.nextInt(100);
        if (what < (style == 3 ? 20 : 45)) {
            writePiece();
        } else if (what < 60) {
            code();
        } else if (what < 66) {
            size();
        } else if (what < (style == 2 ? 70 : 84)) {
            type();
        } else if (what < 87) {
            key();
        } else if (what < 91) {
            draft();
        } else if (what < 93) {
            call("paste()", x::paste, model::paste);
        } else if (what < 95) {
            rule(style);
        } else if (what < 97) {
            call("take()", x::take, model::take);
        } else if (what < 98) {
            call("draw()", x::draw, model::draw);
        } else {
            mouse();
        }
    }

    private void write(int b) {
        call("write(" + b + ")", () -> x.write(b), () -> model.write(b));
    }

    private void writePiece() {
        if (random.nextInt(4) == 0) {
            write(random.nextInt(20) == 0 ? random.nextInt(140) - 5 : 32 + random.nextInt(95));
            return;
        }
        String piece = PIECES[random.nextInt(PIECES.length)];
        for (int i = 0; i < piece.length(); i++) {
            write(piece.charAt(i) == '#' ? 27 : piece.charAt(i));
        }
    }

    private int number() {
        switch (random.nextInt(6)) {
            case 0: return 0;
            case 1: return random.nextInt(1002) - 1;
            default: return random.nextInt(13);
        }
    }

    private void code() {
        boolean isMarked = random.nextInt(3) == 0;
        int[] modes = {1, 6, 7, 25, 47, 47, 100, 204};
        int one = isMarked ? modes[random.nextInt(modes.length)] : number();
        int two = random.nextInt(3) == 0 ? number() : 0;
        String letters = isMarked ? "hlhlhlm" : "ABCDHHJKLMST@PXrmmgnhlz";
        int b = random.nextInt(50) == 0 ? random.nextInt(130) : letters.charAt(random.nextInt(letters.length()));
        call("code(" + isMarked + ", " + one + ", " + two + ", " + b + ")",
                () -> x.code(isMarked, one, two, b), () -> model.code(isMarked, one, two, b));
    }

    private void size() {
        boolean isSame = random.nextInt(6) == 0;
        int rows = isSame ? x.told(7) : random.nextInt(30) == 0 ? random.nextInt(16) : 2 + random.nextInt(11);
        int columns = isSame ? x.told(8) : random.nextInt(30) == 0 ? random.nextInt(28) : 4 + random.nextInt(random.nextBoolean() ? 6 : 21);
        call("size(" + rows + ", " + columns + ")", () -> x.size(rows, columns), () -> model.size(rows, columns));
    }

    private void type() {
        int times = 1 + random.nextInt(6);
        for (int i = 0; i < times; i++) {
            int b = random.nextInt(3) == 0 ? TYPED[random.nextInt(TYPED.length)] : random.nextInt(30) == 0 ? random.nextInt(132) - 2 : 32 + random.nextInt(95);
            call("type(" + b + ")", () -> x.type(b), () -> model.type(b));
        }
    }

    private void key() {
        int key = random.nextInt(9) - 1;
        int modifiers = random.nextInt(3) == 0 ? random.nextInt(10) - 1 : 0;
        call("key(" + key + ", " + modifiers + ")", () -> x.key(key, modifiers), () -> model.key(key, modifiers));
    }

    private void draft() {
        int times = 1 + random.nextInt(12);
        for (int i = 0; i < times; i++) {
            int b = random.nextInt(4) == 0 ? TYPED[random.nextInt(TYPED.length)] : random.nextInt(128);
            call("draft(" + b + ")", () -> x.draft(b), () -> model.draft(b));
        }
    }

    private void rule(int style) {
        boolean isRaw = random.nextInt(style == 1 ? 2 : 6) == 0;
        boolean echoes = random.nextInt(4) != 0;
        call("rule(" + isRaw + ", " + echoes + ")", () -> x.rule(isRaw, echoes) ? 1 : 0, () -> model.rule(isRaw, echoes) ? 1 : 0);
    }

    private void mouse() {
        int button = random.nextInt(5) - 1;
        int row = random.nextInt(x.told(7) + 2) - 1;
        int column = random.nextInt(x.told(8) + 2) - 1;
        call("mouse(" + button + ", " + row + ", " + column + ")", () -> x.mouse(button, row, column), () -> model.mouse(button, row, column));
    }

    private void lookAtAll() {
        for (int i = -1; i <= 21; i++) {
            int what = i;
            same("told(" + what + ")", () -> x.told(what), () -> model.told(what));
        }
        int rows = x.told(7);
        int columns = x.told(8);
        int above = x.told(9);
        boolean isAnew = random.nextInt(40) == 0;
        for (int r = -1; r <= rows && !isWrong; r++) {
            int row = r;
            same("least(" + row + ")", () -> x.least(row), () -> model.least(row));
            for (int c = -1; c <= columns; c++) {
                int column = c;
                same("cell(" + row + ", " + column + ")", () -> x.cell(row, column), () -> model.cell(row, column));
                if (isAnew && random.nextInt(20) == 0) {
                    same("cellAnew(" + row + ", " + column + ")", () -> x.cellAnew(row, column), () -> model.cellAnew(row, column));
                }
            }
        }
        for (int r = -1; r <= above && !isWrong; r++) {
            int row = r;
            for (int c = -1; c <= columns; c++) {
                int column = c;
                same("past(" + row + ", " + column + ")", () -> x.past(row, column), () -> model.past(row, column));
            }
        }
        for (int r = -above - 1; r <= rows && !isWrong; r++) {
            int row = r;
            same("goesOn(" + row + ")", () -> x.goesOn(row) ? 1 : 0, () -> model.goesOn(row) ? 1 : 0);
        }
        for (int i = -1; i <= 16 && !isWrong; i++) {
            int place = i;
            same("title(" + place + ")", () -> x.title(place), () -> model.title(place));
        }
        if (!isWrong && random.nextInt(5) == 0) {
            same("draw()", x::draw, model::draw);
        }
    }
}
