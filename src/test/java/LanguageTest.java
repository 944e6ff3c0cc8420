import java.io.IOException;
import java.nio.file.Files;
import java.nio.file.Path;
import java.util.ArrayList;
import java.util.List;
import java.util.regex.Matcher;
import java.util.regex.Pattern;

/** The source keeps to the part of Java that shared/LANGUAGE.md leaves, as far as its text shows it. */
public final class LanguageTest {
    private static final Path SOURCE = Path.of("src/main/java/InputrowConsole.java");
    private static final String[] FORBIDDEN = {
        "->", "::", "\\bfinally\\b", "\\bassert\\b", "\\bsynchronized\\b", "\\bpackage\\b", "\\bstatic\\s*\\{",
        "Exact\\b", "\\bequals\\b", "\\bhashCode\\b", "\\btoString\\b",
        "\\bSystem\\.(?!arraycopy)", "\\bThread\\b", "\\bObject\\b", "\\bprotected\\b", "\\bvar\\b",
        "\\[\\]\\s*\\["};

    public static void main(String[] args) throws IOException {
        String text = Files.readString(SOURCE);
        String bare = text.replaceAll("(?s)/\\*.*?\\*/", "").replaceAll("//[^\n]*", "").replaceAll("\"[^\"\n]*\"", "\"\"");
        Check.due("ASCII alone", text.chars().allMatch(c -> c < 128), true);
        for (String forbidden : FORBIDDEN) {
            Check.due(forbidden, Pattern.compile(forbidden).matcher(bare).find(), false);
        }
        Check.due("imports", found(bare, "import [^;]*;"), List.of("import java.util.Arrays;"));
        for (String thrown : found(bare, "throw [^;]*;")) {
            Check.due(thrown, thrown.matches("throw new (IllegalArgument|IllegalState|IndexOutOfBounds)Exception\\(\"\"\\);"), true);
        }
        for (String constant : found(bare, "static [^(;={]*=[^;]*;")) {
            Check.due(constant, constant.matches("(?s)static final (int|boolean|char\\[\\]) .*"), true);
        }
        Check.due("at most 12 classes", found(bare, "\\bclass \\w+").size() <= 12, true);
        methods(bare.split("\n"));
        Check.end();
    }

    private static List<String> found(String text, String pattern) {
        List<String> all = new ArrayList<>();
        Matcher m = Pattern.compile(pattern).matcher(text);
        while (m.find()) {
            all.add(m.group());
        }
        return all;
    }

    /** Methods begin with one step or two to the right, and end with a brace below their first letter. */
    private static void methods(String[] lines) {
        Pattern head = Pattern.compile("( {4}| {8})(?!if|for|switch|return)\\w[^;=]*\\((.*)\\)( throws .*)? \\{");
        int count = 0;
        for (int i = 0; i < lines.length; i++) {
            Matcher m = head.matcher(lines[i]);
            if (!m.matches()) {
                continue;
            }
            count++;
            int end = i;
            while (!lines[end].equals(m.group(1) + "}")) {
                end++;
            }
            Check.due("at most 60 lines: " + lines[i].trim(), end - i < 60, true);
            Check.due("at most 7 parameters: " + lines[i].trim(), m.group(2).split(",").length <= 7, true);
        }
        Check.due("methods were found", count > 100, true);
    }
}
