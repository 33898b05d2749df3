import java.io.IOException;
import java.nio.file.DirectoryStream;
import java.nio.file.Files;
import java.nio.file.Path;
import java.util.HashMap;
import java.util.List;
import java.util.Map;
import java.util.TreeSet;
import java.util.regex.Matcher;
import java.util.regex.Pattern;

/** README.md: the class gives the answers that it shows, and it names every call and every test. */
public final class ReadmeTest {
    private static final Path README = Path.of("README.md");
    private static final Path TESTS = Path.of("src/test/java");

    private static final String NEW_OBJECT = "CodeShrinker x = new CodeShrinker();";
    /** "int dog = x.add(animal); // = 2, its PARENT is animal": variable, call, arguments, answer. */
    private static final Pattern CALL =
            Pattern.compile("(?:int (\\w+) = )?x\\.(\\w+)\\(([\\w, -]*)\\);(?:\\s+// = ([\\w-]+)(?:,.*)?)?");

    private static final Checks checks = new Checks();

    private final Map<String, String> variables = new HashMap<>();
    private final TreeSet<String> called = new TreeSet<>();
    private Script script;

    public static void main(String[] args) throws IOException {
        List<String> lines = Files.readAllLines(README);
        new ReadmeTest().use(lines);
        everyTestIsNamed(String.join("\n", lines));
        checks.finish();
    }

    private void use(List<String> lines) {
        boolean code = false;
        for (String line : lines) {
            if (line.startsWith("```")) {
                code = line.equals("```java");
            } else if (code) {
                one(line);
            }
        }
        checks.compare("README.md: calls of its use", FaceTest.names().toString(), called.toString());
    }

    private void one(String line) {
        Matcher call = CALL.matcher(line);
        if (line.equals(NEW_OBJECT)) {
            script = new Script(checks, "README.md");
            variables.clear();
        } else if (script != null && call.matches()) {
            perform(call);
        } else {
            checks.compare("README.md: " + line, "a call on x", "a line that the test does not understand");
        }
    }

    private void perform(Matcher call) {
        String answer = call.group(4);
        called.add(call.group(2));
        // Only keep has no answer, so that no other call of the page stays unproved.
        checks.compare("README.md: the answer of " + call.group(), "" + !call.group(2).equals("keep"),
                "" + (answer != null));
        script.row("%s", call.group(2) + "(" + numbers(call.group(3)) + ")" + (answer == null ? "" : " = " + answer));
        if (call.group(1) != null) {
            variables.put(call.group(1), answer);
        }
    }

    private String numbers(String arguments) {
        StringBuilder numbers = new StringBuilder();
        for (String argument : arguments.isEmpty() ? new String[0] : arguments.split(", ")) {
            numbers.append(numbers.length() == 0 ? "" : ", ").append(variables.getOrDefault(argument, argument));
        }
        return numbers.toString();
    }

    private static void everyTestIsNamed(String page) throws IOException {
        try (DirectoryStream<Path> files = Files.newDirectoryStream(TESTS, "*Test.java")) {
            for (Path file : files) {
                String name = file.getFileName().toString().replace(".java", "");
                checks.compare("README.md names " + name, "true", "" + page.contains("`" + name + "`"));
            }
        }
    }
}
