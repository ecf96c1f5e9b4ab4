import java.io.IOException;
import java.nio.file.Files;
import java.nio.file.Path;
import java.util.List;
import java.util.regex.Matcher;
import java.util.regex.Pattern;

/** What of LANGUAGE.md can be seen in the source's text alone. */
public final class LanguageTest {
    private static final String[] NEVER = {"\\bcatch\\b", "\\btry\\b", "\\bfinally\\b", "->", "::", "\\bassert\\b",
        "\\bsynchronized\\b", "Exact\\b", "\\bpackage\\b", "System\\.(?!arraycopy)", "\\bThread\\b", "\\bdouble\\b",
        "\\bfloat\\b", "\\bstatic\\s*\\{", "\\bRandom\\b", "\\bObject\\b", "\\.hashCode\\(", "\\.toString\\(",
        "\\bwhile\\s*\\(true\\)", "for\\s*\\(;;"};

    public static void main(String[] args) throws IOException {
        String source = Files.readString(Path.of("src/main/java/PaidByHeart.java"));
        String code = source.replaceAll("(?s)/\\*.*?\\*/", "").replaceAll("//[^\n]*", "").replaceAll("\"[^\"\n]*\"", "\"\"");
        for (String never : NEVER) {
            Pen.due("found " + never, 0, () -> Pattern.compile(never).matcher(code).find() ? 1 : 0);
        }
        Matcher thrown = Pattern.compile("\\bthrow\\b([^;]*);").matcher(code);
        while (thrown.find()) {
            String what = thrown.group(1).trim();
            Pen.due("throw " + what, 1,
                () -> what.matches("new (IllegalArgumentException|NoSuchElementException)\\((\"\")?\\)") ? 1 : 0);
        }
        Matcher imports = Pattern.compile("import [^;]*;").matcher(code);
        while (imports.find()) {
            String what = imports.group();
            Pen.due(what, 1, () -> what.equals("import java.util.NoSuchElementException;") ? 1 : 0);
        }
        shortMethods(List.of(code.split("\n")));
        Pen.due("plain signs", 1, () -> source.chars().allMatch(c -> c == '\n' || c >= 32 && c < 127) ? 1 : 0);
        Pen.end();
    }

    /** A method begins at a brace that stands four or eight in, and ends at its like. */
    private static void shortMethods(List<String> lines) {
        for (int i = 0; i < lines.size(); i++) {
            String line = lines.get(i);
            if (!line.matches("( {4}| {8})\\S.*\\(.*\\).*\\{") || line.contains("class ")) continue;
            String end = line.replaceAll("\\S.*", "") + "}";
            int last = i;
            while (last < lines.size() - 1 && !lines.get(last).equals(end)) last++;
            int length = last - i + 1;
            Pen.due("lines of " + line.trim(), 1, () -> length <= 60 ? 1 : 0);
        }
    }
}
