import java.io.IOException;
import java.nio.file.Files;
import java.nio.file.Path;
import java.util.regex.Matcher;
import java.util.regex.Pattern;

/** What of LANGUAGE.md can be seen in the source's text alone. */
public final class LanguageTest {
    private static final String[] NEVER = {"\\bcatch\\b", "\\btry\\b", "\\bfinally\\b", "->", "::", "\\bassert\\b",
        "\\bsynchronized\\b", "Exact\\b", "\\bpackage\\b", "System\\.(?!arraycopy)", "\\bThread\\b", "\\bdouble\\b",
        "\\bfloat\\b", "\\bstatic\\s*\\{", "\\bRandom\\b", "\\bObject\\b", "\\.hashCode\\(", "\\.toString\\(",
        "\\bwhile\\s*\\(true\\)", "for\\s*\\(;;"};

    public static void main(String[] args) throws IOException {
        String source = Files.readString(Path.of("src/main/java/PaidByHeart.java"));
        String code = source.replaceAll("(?s)/\\*.*?\\*/", "").replaceAll("//[^\n]*", "").replaceAll("\"[^\"\n]*\"", "\"\"");
        for (String never : NEVER) {
            Pen.due("found " + never, 0, () -> Pattern.compile(never).matcher(code).find() ? 1 : 0);
        }
        Matcher imports = Pattern.compile("import [^;]*;").matcher(code);
        while (imports.find()) {
            String what = imports.group();
            Pen.due(what, 1, () -> what.equals("import java.util.NoSuchElementException;") ? 1 : 0);
        }
        Pen.due("plain signs", 1, () -> source.chars().allMatch(c -> c == '\n' || c >= 32 && c < 127) ? 1 : 0);
        Pen.end();
    }
}
