import java.io.IOException;
import java.lang.reflect.Method;
import java.lang.reflect.Modifier;
import java.nio.file.Files;
import java.nio.file.Path;
import java.util.regex.Matcher;
import java.util.regex.Pattern;

/**
 * Holds README.md to the program: what its examples say behind "//" must be answered, every call
 * of the face must be told in it, and so must every test that the project has.
 */
public final class ReadmeTest {
    private static final Path README = Path.of("README.md");
    private static final Path TESTS = Path.of("src/test/java");
    private static final Pattern EXAMPLE = Pattern.compile("(?s)```java\n(.*?)```");
    private static final Pattern NEW = Pattern.compile("TwinPlates plates = new TwinPlates\\(\\);");
    private static final Pattern TEXT =
            Pattern.compile("for \\(char sign : \"([^\"]*)\"\\.toCharArray\\(\\)\\) plates\\.append\\(sign\\);");
    private static final Pattern CALL = Pattern.compile("plates\\.(\\w+\\([^)]*\\)); +// (-?\\w+): .+");

    private ReadmeTest() {
    }

    public static void main(String[] args) throws IOException {
        Due.begin("README.md");
        String readme = Files.readString(README);
        runsExamples(readme);
        tellsEveryCall(readme);
        tellsEveryTest(readme);
        Due.finish("ReadmeTest");
    }

    private static void runsExamples(String readme) {
        int examples = 0;
        Matcher example = EXAMPLE.matcher(readme);
        while (example.find()) {
            examples++;
            runExample(example.group(1).split("\n"));
        }
        Due.holds("there are examples", examples > 0);
    }

    private static void runExample(String[] lines) {
        Due.holds("an example begins with a new object", NEW.matcher(lines[0]).matches());
        Run run = new Run();
        for (int i = 1; i < lines.length; i++) {
            Matcher text = TEXT.matcher(lines[i]);
            Matcher call = CALL.matcher(lines[i]);
            if (text.matches()) {
                append(run, text.group(1));
            } else if (call.matches()) {
                run.due(call.group(1) + " = " + call.group(2));
            } else {
                Due.holds("this line is a call with its answer: " + lines[i], false);
            }
        }
    }

    private static void append(Run run, String text) {
        for (char sign : text.toCharArray()) {
            run.due("append(" + (int) sign + ")");
        }
    }

    private static void tellsEveryCall(String readme) {
        for (Method method : TwinPlates.class.getDeclaredMethods()) {
            if (Modifier.isPublic(method.getModifiers())) {
                int parameters = method.getParameterCount();
                String list = parameters == 0 ? "" : "\\w+" + ", \\w+".repeat(parameters - 1);
                Due.holds("a row tells of " + method.getName() + " with " + parameters + " numbers",
                        Pattern.compile("(?m)^\\| `" + method.getName() + "\\(" + list + "\\)` \\|").matcher(readme).find());
            }
        }
    }

    private static void tellsEveryTest(String readme) throws IOException {
        try (var files = Files.list(TESTS)) {
            for (Path file : files.toList()) {
                String name = file.getFileName().toString().replace(".java", "");
                Due.holds("it tells of " + name, !name.endsWith("Test") || readme.contains("- `" + name + "`: "));
            }
        }
    }
}
