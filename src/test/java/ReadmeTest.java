import java.nio.file.Files;
import java.nio.file.Path;
import java.util.ArrayList;
import java.util.List;
import java.util.regex.Matcher;
import java.util.regex.Pattern;
import javax.tools.ToolProvider;

/** The code of README.md, compiled as it stands there: each call answers what is told behind it. */
public final class ReadmeTest {
    private static final Pattern CODE = Pattern.compile("(?s)```java\n(.*?)```");
    private static final Pattern CALL = Pattern.compile("(x\\.\\w+\\(.*\\)); +// (-?\\d+|throws \\w+)\\b.*");

    private static int calls = 0;

    public static void main(String[] args) throws Exception {
        List<String> code = new ArrayList<>();
        Matcher found = CODE.matcher(Files.readString(Path.of("README.md")));
        while (found.find()) code.add(found.group(1));
        Pen.due("a helper and an example", 2, () -> code.size());
        if (code.size() == 2) run(code.get(0), code.get(1));
        Pen.due("calls with an answer told", 19, () -> calls);
        Pen.end();
    }

    private static void run(String helper, String example) throws Exception {
        StringBuilder body = new StringBuilder();
        for (String line : example.split("\n")) body.append(checked(line)).append('\n');
        String source = "public final class Example {\n" + helper
            + "public static void main(String[] args) {\n" + body + "}\n}\n";
        // beside this test's own classes, so that the example is of one package with Pen
        String classes = Path.of(ReadmeTest.class.getProtectionDomain().getCodeSource().getLocation().toURI()).toString();
        Path file = Path.of(classes, "Example.java");
        Files.writeString(file, source);
        int refused = ToolProvider.getSystemJavaCompiler()
            .run(null, null, null, "-cp", classes, "-d", classes, file.toString());
        Pen.due("the example is compiled", 0, () -> refused);
        if (refused == 0) Class.forName("Example").getMethod("main", String[].class).invoke(null, (Object) new String[0]);
    }

    /** The line itself, or what holds its call against the answer told. */
    private static String checked(String line) {
        Matcher call = CALL.matcher(line);
        if (!call.matches()) return line;
        calls++;
        String want = call.group(2).replace("throws NoSuchElementException", "Pen.NO_SUCH")
            .replace("throws IllegalArgumentException", "Pen.ILLEGAL");
        return "Pen.due(\"" + call.group(1).replace("\"", "'") + "\", " + want + ", () -> " + call.group(1) + ");";
    }
}
