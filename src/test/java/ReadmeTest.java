import java.net.URL;
import java.net.URLClassLoader;
import java.nio.file.Files;
import java.nio.file.Path;
import java.util.List;
import java.util.regex.Matcher;
import java.util.regex.Pattern;
import javax.tools.ToolProvider;

/** What README.md shows: its example, compiled and run, and the clauses of its table. */
public final class ReadmeTest {
    /** A call with its answer behind it, perhaps kept in a variable. */
    private static final Pattern ANSWERED =
        Pattern.compile("(?:int (\\w+) = )?(chain\\.\\w+\\(.*\\)); *// (-?\\d+): .*");
    private static final Pattern CLAUSE = Pattern.compile("\\|.*\\|.*\\| `(.+)` \\| ([0-5]) \\|");

    public static void main(String[] args) throws Exception {
        String readme = Files.readString(Path.of("README.md"));
        runExample(readme.split("```java\n")[1].split("```")[0]);
        readClauses(readme.lines().toList());
        Bench.close();
    }

    /** For the example, which is loaded apart from the tests and sees only what is public of them. */
    public static void answered(String call, int got, int want) {
        Bench.due("README's " + call, got, want);
    }

    private static void runExample(String example) throws Exception {
        StringBuilder body = new StringBuilder();
        int answers = 0;
        for (String line : example.lines().toList()) {
            Matcher m = ANSWERED.matcher(line);
            if (m.matches()) {
                answers++;
                String kept = m.group(1) == null ? "answer" + answers : m.group(1);
                body.append("int ").append(kept).append(" = ").append(m.group(2)).append(";\n");
                body.append("ReadmeTest.answered(\"").append(m.group(2)).append("\", ").append(kept).append(", ");
                body.append(m.group(3)).append(");\n");
            } else {
                body.append(line).append('\n');
            }
        }
        Bench.due("answers in README's example", answers, example.split("//", -1).length - 1);
        compileAndRun("public class Example { public static void main(String[] args) {\n" + body + "} }\n");
    }

    /** In this very program, so that Bench counts its answers with the others. */
    private static void compileAndRun(String source) throws Exception {
        Path place = Files.createTempDirectory("readme");
        Path file = place.resolve("Example.java");
        Files.writeString(file, source);
        String tests = System.getProperty("java.class.path");
        int failed = ToolProvider.getSystemJavaCompiler().run(null, null, null, "-cp", tests, file.toString());
        Bench.due("compiling README's example", failed, 0);
        if (failed == 0) {
            try (URLClassLoader loader = new URLClassLoader(new URL[] {place.toUri().toURL()})) {
                loader.loadClass("Example").getMethod("main", String[].class).invoke(null, (Object) new String[0]);
            }
        }
        for (Path left : List.of(place.resolve("Example.class"), file, place)) {
            Files.deleteIfExists(left);
        }
    }

    private static void readClauses(List<String> lines) {
        int clauses = 0;
        for (String line : lines) {
            Matcher m = CLAUSE.matcher(line);
            if (m.matches()) {
                Bench.due("README's clause " + m.group(1), new Bench().desk(m.group(1)), Integer.parseInt(m.group(2)));
                clauses++;
            }
        }
        Bench.due("clauses in README's table", clauses, 6);
    }
}
