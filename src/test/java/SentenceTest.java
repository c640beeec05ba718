import java.io.IOException;
import java.lang.reflect.InvocationTargetException;
import java.lang.reflect.Method;
import java.nio.file.Files;
import java.nio.file.Path;
import java.util.ArrayList;
import java.util.Arrays;
import java.util.Comparator;
import java.util.HashMap;
import java.util.HashSet;
import java.util.LinkedHashMap;
import java.util.List;
import java.util.Map;
import java.util.Set;
import java.util.regex.Matcher;
import java.util.regex.Pattern;

/**
 * Runs the test of each sentence of the document. What a test quotes must stand in the document,
 * under the head that it names, and no sentence under "Terms" or of a promise may be without a test:
 * so a document that has changed is noticed here. The document's path is the second argument.
 */
public final class SentenceTest {
    private static final Class<?>[] HOLDERS = {
        PlatesSentences.class, TickSentences.class, CutSentences.class, ProgramSentences.class, UndoSentences.class,
        ErrorSentences.class, OrderPromises.class, TimePromises.class, TextPromises.class, LookPromises.class,
        ForecastPromises.class};
    private static final Path TESTS = Path.of("src/test/java");
    private static final int PROMISES = 18;
    private static final Set<String> HEADS_WITHOUT_TESTS =
            Set.of("TwinPlates", "What it is", "The public face", "Terms", "Not promised");
    private static final Pattern MARKED = Pattern.compile("(?m)^ +@Sentence\\(");
    private static final Pattern NAME = Pattern.compile("promise(\\d+)(?:To(\\d+))?_\\w+");

    private SentenceTest() {
    }

    public static void main(String[] args) throws IOException {
        Path document = Path.of(args.length > 1 ? args[1] : "../shared/DOC.md");
        List<Method> tests = tests();
        looksAtHolders();
        looksAtNames(tests);
        looksAtQuotes(tests, sections(Files.readAllLines(document)));
        for (Method test : tests) {
            run(test);
        }
        Due.finish("SentenceTest, " + tests.size() + " sentences");
    }

    private static List<Method> tests() {
        List<Method> tests = new ArrayList<>();
        for (Class<?> holder : HOLDERS) {
            for (Method method : holder.getDeclaredMethods()) {
                if (method.isAnnotationPresent(Sentence.class)) {
                    tests.add(method);
                }
            }
        }
        tests.sort(Comparator.comparing(Method::getName));
        return tests;
    }

    private static void run(Method test) {
        int before = Due.checked();
        Due.begin(test.getName());
        try {
            test.invoke(null);
        } catch (InvocationTargetException thrown) {
            Due.holds("it runs without " + thrown.getCause(), false);
        } catch (IllegalAccessException refused) {
            Due.holds("it can be called: " + refused, false);
        }
        Due.holds("it looks at an answer", Due.checked() > before);
    }

    /** A file that HOLDERS doesn't name, and a test there that quotes no sentence, would never be run. */
    private static void looksAtHolders() throws IOException {
        Due.begin("all tests");
        Set<String> held = new HashSet<>();
        for (Class<?> holder : HOLDERS) {
            held.add(holder.getName());
            for (Method method : holder.getDeclaredMethods()) {
                Due.holds(method.getName() + " quotes a sentence",
                        method.isAnnotationPresent(Sentence.class) || !NAME.matcher(method.getName()).matches());
            }
        }
        try (var files = Files.list(TESTS)) {
            for (Path file : files.toList()) {
                boolean hasTests = MARKED.matcher(Files.readString(file)).find();
                String name = file.getFileName().toString().replace(".java", "");
                Due.is(name + " in HOLDERS", held.contains(name) ? 1 : 0, hasTests ? 1 : 0);
            }
        }
    }

    private static void looksAtNames(List<Method> tests) {
        Set<String> names = new HashSet<>();
        Set<Integer> promises = new HashSet<>();
        for (Method test : tests) {
            Due.begin(test.getName());
            Matcher parts = NAME.matcher(test.getName());
            Due.holds("the name tells the promise", parts.matches());
            Due.holds("the name is its own", names.add(test.getName()));
            if (parts.matches()) {
                promises.add(Integer.parseInt(parts.group(1)));
            }
        }
        Due.begin("all tests");
        Due.is("promises with tests", promises.size(), PROMISES);
    }

    // ---- the words of the document

    private static void looksAtQuotes(List<Method> tests, Map<String, String> sections) {
        Map<String, StringBuilder> untold = new HashMap<>();
        sections.forEach((head, words) -> untold.put(head, new StringBuilder(words)));
        for (Method test : tests) {
            Sentence sentence = test.getAnnotation(Sentence.class);
            Due.begin(test.getName());
            Due.holds("it quotes something", sentence.says().length > 0);
            for (String quote : sentence.says()) {
                String words = sections.getOrDefault(sentence.head(), "");
                Due.holds("the document says under " + sentence.head() + ": " + quote, words.contains(quote));
                strike(untold.getOrDefault(sentence.head(), new StringBuilder()), words, quote);
            }
        }
        Due.begin("all tests");
        for (String head : sections.keySet()) {
            if (!HEADS_WITHOUT_TESTS.contains(head)) {
                String left = untold.get(head).toString().replaceAll("[^A-Za-z0-9]+", " ").trim();
                Due.holds("no words of " + head + " are without a test: " + left, left.isEmpty());
            }
        }
    }

    /** Blanks stand for what was quoted, so that the places of the other words stay. */
    private static void strike(StringBuilder untold, String words, String quote) {
        for (int at = words.indexOf(quote); at >= 0 && !quote.isEmpty(); at = words.indexOf(quote, at + 1)) {
            for (int i = at; i < at + quote.length(); i++) {
                untold.setCharAt(i, ' ');
            }
        }
    }

    /** The text under each head, with single blanks; the names of calls before a promise and code marks left out. */
    private static Map<String, String> sections(List<String> lines) {
        Map<String, StringBuilder> texts = new LinkedHashMap<>();
        String head = "";
        for (String line : lines) {
            if (line.startsWith("#")) {
                head = line.replaceFirst("^#+ ", "");
            } else if (!line.startsWith("```")) {
                String told = line.replaceFirst("^`(int )?\\w+\\([\\w ,]*\\)`: ", "");
                texts.computeIfAbsent(head, any -> new StringBuilder()).append(told).append(' ');
            }
        }
        Map<String, String> sections = new LinkedHashMap<>();
        texts.forEach((name, text) -> sections.put(name, String.join(" ", Arrays.asList(text.toString().trim().split("\\s+")))));
        return sections;
    }
}
