/** Promise 17: title. */
public final class P17TitleTest {
    public static void main(String[] args) {
        InputrowConsole x = new InputrowConsole();
        Check.outOfBounds("no title", () -> x.title(0));
        Check.write(x, "#]a ~");
        Check.outOfBounds("not yet", () -> x.title(0));
        x.write(7);
        Check.due("first", x.title(0), (int) 'a');
        Check.due("second", x.title(1), 32);
        Check.due("third", x.title(2), 126);
        Check.outOfBounds("fourth", () -> x.title(3));
        Check.outOfBounds("place -1", () -> x.title(-1));
        Check.write(x, "#]0123456789abcdefgh\u0007");
        Check.due("the sixteenth", x.title(15), (int) 'f');
        Check.outOfBounds("16", () -> x.title(16));
        Check.write(x, "#c");
        Check.due("stays at a reset", x.title(0), (int) '0');
        Check.write(x, "#]zz#]y\u0007");
        Check.due("begun again", Check.title(x), "y");
        Check.end();
    }
}
