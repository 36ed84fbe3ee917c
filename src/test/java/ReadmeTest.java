import java.io.IOException;
import java.nio.file.Files;
import java.nio.file.Path;
import java.util.List;
import java.util.regex.Matcher;
import java.util.regex.Pattern;
import java.util.stream.Stream;

/** README.md: its examples answer as it says, and it names every call, every constant and every test. */
public final class ReadmeTest {
    private static final Pattern EXAMPLE = Pattern.compile("```java\n(.*?)```", Pattern.DOTALL);
    private static final Pattern WRITE = Pattern.compile("write\\(x, \"(.*)\"\\);");
    private static final Pattern CALL = Pattern.compile("x\\.(\\w+\\(.*\\)); +// (-?\\w+)(:.*)?");

    private static AutoIndenter x = null;
    private static int calls = 0;

    public static void main(String[] args) throws Exception {
        String page = Files.readString(Path.of("README.md"));
        examples(page);
        names(page);
        tests(page);
        Check.finish();
    }

    private static void examples(String page) throws Exception {
        Matcher example = EXAMPLE.matcher(page);
        while (example.find()) {
            String code = example.group(1);
            if (!code.startsWith("static ")) {
                run(code.split("\n"));
            }
        }
        Check.due("README.md has examples", calls > 40 ? 1 : 0, 1);
    }

    private static void run(String[] statements) throws Exception {
        for (String statement : statements) {
            Matcher write = WRITE.matcher(statement);
            Matcher call = CALL.matcher(statement);
            if (statement.equals("AutoIndenter x = new AutoIndenter();")) {
                x = new AutoIndenter();
            } else if (write.matches()) {
                Check.put(x, write.group(1));
            } else if (call.matches()) {
                Check.due("README.md: " + call.group(1), Calls.make(x, call.group(1)), Calls.answer(call.group(2)));
                calls++;
            } else {
                Check.due("a statement of README.md", statement, "one that the test knows");
            }
        }
    }

    private static void names(String page) {
        for (String name : Calls.publicMethods().keySet()) {
            Check.due("README.md names " + name + "()", page.contains(name + "(") ? 1 : 0, 1);
        }
        for (String name : List.of("`BAD` (-1)", "`STATE` (-2)", "`FULL` (-3)", "`NONE` (-9)")) {
            Check.due("README.md tells of " + name, page.contains(name) ? 1 : 0, 1);
        }
    }

    private static void tests(String page) throws IOException {
        try (Stream<Path> files = Files.list(Path.of("src/test/java"))) {
            for (Path file : files.sorted().toList()) {
                String name = file.getFileName().toString().replace(".java", "");
                if (name.endsWith("Test")) {
                    Check.due("README.md lists " + name, page.contains("| " + name + " |") ? 1 : 0, 1);
                }
            }
        }
        Matcher listed = Pattern.compile("\n\\| (\\w+Test) \\|").matcher(page);
        while (listed.find()) {
            Path file = Path.of("src/test/java", listed.group(1) + ".java");
            Check.due(file + ", which README.md lists, is there", Files.exists(file) ? 1 : 0, 1);
        }
        Check.due("README.md tells how the tests are run", page.contains("    .ci/run\n") ? 1 : 0, 1);
    }
}
