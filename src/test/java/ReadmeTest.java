import java.io.ByteArrayOutputStream;
import java.io.IOException;
import java.io.PrintStream;
import java.nio.charset.StandardCharsets;
import java.nio.file.Files;
import java.nio.file.Path;
import java.util.Set;
import java.util.TreeSet;
import java.util.regex.Matcher;
import java.util.regex.Pattern;

/** README.md: its example is Example.java and prints what is said there; it names every call and every test. */
public final class ReadmeTest {
    private static final Set<String> CALLS = Set.of("container(parent, order, shared)",
            "test(parent, order, rounds, deadline)", "mark(node, tags, disabled)",
            "method(node, kind, result, code, length)", "without(node, kind)", "run(wanted, unwanted, broken)",
            "event(i, what)", "trouble(i, k)", "count(what)");
    private static final Due due = new Due();

    public static void main(String[] args) throws IOException {
        Path root = Path.of(args[0]).toAbsolutePath().resolve("../../../..").normalize();
        Path tests = root.resolve("src/test/java");
        String readme = Files.readString(root.resolve("README.md"));
        due.same("the example", blockOf(readme, "java"), Files.readString(tests.resolve("Example.java")));
        due.same("what the example prints", blockOf(readme, "text"), printedByExample());
        for (String call : CALLS) {
            due.isTrue("README.md tells of " + call, readme.contains("`" + call + "`"));
        }
        due.isTrue("README.md tells of .ci/run", readme.contains("`.ci/run`"));
        for (String name : testsOf(tests)) {
            due.isTrue("README.md tells of " + name, readme.contains("`" + name + "`"));
        }
        due.end();
    }

    private static String blockOf(String readme, String language) {
        Matcher block = Pattern.compile("(?s)```" + language + "\n(.*?)```").matcher(readme);
        return block.find() ? block.group(1) : "";
    }

    private static String printedByExample() {
        PrintStream console = System.out;
        ByteArrayOutputStream printed = new ByteArrayOutputStream();
        System.setOut(new PrintStream(printed, true, StandardCharsets.UTF_8));
        Example.main(new String[0]);
        System.setOut(console);
        return printed.toString(StandardCharsets.UTF_8).replace("\r\n", "\n");
    }

    private static Set<String> testsOf(Path tests) throws IOException {
        Set<String> names = new TreeSet<>();
        try (var files = Files.list(tests)) {
            files.map(file -> file.getFileName().toString()).filter(file -> file.endsWith("Test.java"))
                    .forEach(file -> names.add(file.replace(".java", "")));
        }
        return names;
    }
}
