import java.lang.reflect.Constructor;
import java.lang.reflect.Field;
import java.lang.reflect.Member;
import java.lang.reflect.Method;
import java.lang.reflect.Modifier;
import java.util.Arrays;
import java.util.TreeSet;

/** The public face: every constant, constructor and method of the document, and nothing else. */
public final class FaceTest {
    public static void main(String[] args) throws IllegalAccessException {
        Class<?> face = InputrowConsole.class;
        Check.due("the class", Modifier.toString(face.getModifiers()), "public final");
        Check.due("constants", constants(face), "CODE=2 DELETE=6 DOWN=1 END=5 ESCAPE=1 GROUND=0 HOME=4 LEFT=3 NONE=-1 RIGHT=2 TITLE=3 UP=0");
        TreeSet<String> constructors = new TreeSet<>();
        for (Constructor<?> c : face.getDeclaredConstructors()) {
            constructors.add(c.toString());
        }
        Check.due("constructors", constructors.toString(), "[public InputrowConsole()]");
        TreeSet<String> methods = new TreeSet<>();
        TreeSet<String> names = new TreeSet<>();
        for (Method m : face.getDeclaredMethods()) {
            if (!Modifier.isPrivate(m.getModifiers())) {
                methods.add(line(m));
                names.add(m.getName());
            }
        }
        Check.due("methods", String.join("\n", methods), String.join("\n", due()));
        for (Method m : face.getDeclaredMethods()) {
            if (Modifier.isPrivate(m.getModifiers())) {
                Check.due("a private method called " + m.getName(), names.contains(m.getName()), false);
            }
        }
        for (Class<?> inside : face.getDeclaredClasses()) {
            Check.due(inside.getName() + " is static", Modifier.isStatic(inside.getModifiers()), true);
            Check.due(inside.getName() + " is public", Modifier.isPublic(inside.getModifiers()), false);
        }
        Check.end();
    }

    private static String constants(Class<?> face) throws IllegalAccessException {
        TreeSet<String> found = new TreeSet<>();
        for (Field f : face.getDeclaredFields()) {
            if (Modifier.isPublic(f.getModifiers())) {
                boolean isConstant = Modifier.isStatic(f.getModifiers()) && Modifier.isFinal(f.getModifiers());
                found.add(f.getName() + "=" + (isConstant ? f.getInt(null) : "no constant"));
            } else {
                Check.due(f.getName() + " is private", isPrivate(f), true);
            }
        }
        return String.join(" ", found);
    }

    private static boolean isPrivate(Member m) {
        return Modifier.isPrivate(m.getModifiers());
    }

    private static String line(Method m) {
        StringBuilder text = new StringBuilder(Modifier.toString(m.getModifiers()));
        text.append(' ').append(m.getReturnType().getSimpleName()).append(' ').append(m.getName()).append('(');
        for (Class<?> p : m.getParameterTypes()) {
            text.append(p.getSimpleName()).append(' ');
        }
        text.append(')');
        for (Class<?> e : m.getExceptionTypes()) {
            text.append(' ').append(e.getSimpleName());
        }
        return text.toString();
    }

    private static TreeSet<String> due() {
        String argument = " IllegalArgumentException";
        String bounds = " IndexOutOfBoundsException";
        String state = " IllegalStateException";
        return new TreeSet<>(Arrays.asList(
                "public int write(int )" + argument + state,
                "public int code(boolean int int int )" + argument + state,
                "public int type(int )" + argument,
                "public int key(int int )" + argument,
                "public int draft(int )" + argument + state,
                "public int paste()",
                "public int mouse(int int int )" + bounds + argument,
                "public boolean rule(boolean boolean )",
                "public int take()",
                "public int size(int int )" + argument,
                "public int draw()",
                "public int cell(int int )" + bounds,
                "public int cellAnew(int int )" + bounds,
                "public int past(int int )" + bounds,
                "public boolean goesOn(int )" + bounds,
                "public int title(int )" + bounds,
                "public int least(int )" + bounds,
                "public int told(int )" + argument));
    }
}
