import java.io.File;
import java.io.IOException;
import java.lang.reflect.Method;
import java.net.URL;
import java.net.URLClassLoader;
import java.nio.file.Files;
import java.nio.file.Path;
import java.util.ArrayList;
import java.util.List;
import java.util.Map;
import java.util.TreeMap;
import java.util.regex.MatchResult;
import java.util.regex.Matcher;
import java.util.regex.Pattern;
import java.util.stream.Collectors;
import java.util.stream.Stream;
import javax.tools.ToolProvider;

/** What README.md shows: its examples answer as they say, and its tables tell the face and the grammar. */
final class ReadmeTests {
    private static final Path README = Path.of("README.md");
    private static final Path DOCUMENT = Path.of("../shared/DOC.md");
    private static final Pattern BLOCK = Pattern.compile("(?ms)^```java\n(.*?)^```$");
    private static final Pattern TOLD_CALL = Pattern.compile("(?:(int) (\\w+) = )?(\\w.*\\));\\s+// (.*)");
    private static final Pattern TOLD_OUTCOME =
            Pattern.compile("(?:answers ('.'|\"[^\"]*\"|[\\w.]+)|(throws \\w+))(?:: .*)?");
    private static final Pattern CALL_ROW = Pattern.compile("(?m)^\\| `(\\w+)\\(([^)]*)\\)` \\| .* \\|(.*)\\|$");
    private static final Pattern COMMAND_ROW = Pattern.compile("(?m)^\\| `([^`()]+)` \\| `(\\w+)` \\|$");

    /** The examples stand in one method, as each of them goes on with the map of the one before. */
    private static final String PROGRAM = """
            public final class ReadmeExample {
                private static final java.util.List<String> OUTCOMES = new java.util.ArrayList<>();

                public static java.util.List<String> outcomes() {
            %s
                    return OUTCOMES;
                }

                private static void note(String call, Object answer) {
                    OUTCOMES.add(call + " " + (answer instanceof Character ? "'" + answer + "'"
                            : answer instanceof String ? '"' + answer.toString() + '"' : answer.toString()));
                }

                private static void noteThrown(String call, RuntimeException thrown) {
                    OUTCOMES.add(call + " throws " + thrown.getClass().getSimpleName());
                }
            }
            """;

    private ReadmeTests() {
    }

    static void testExamplesAnswerAsTheySay() throws IOException, ReflectiveOperationException {
        List<String> want = new ArrayList<>();
        StringBuilder body = new StringBuilder();
        for (String text : exampleLines()) {
            body.append(text.contains("//") ? told(text, want) : text).append('\n');
        }
        Checks.due(true, want.size() > 30, "many examples are told");
        Checks.due(want, outcomesOf(body.toString()));
    }

    static void testTablesTellTheFace() throws IOException {
        Map<String, String> want = new TreeMap<>();
        for (Method method : ArgumentMap.class.getMethods()) {
            if (method.getDeclaringClass() == ArgumentMap.class) {
                want.put(method.getName(), method.getParameterCount() + " " + Stream.of(method.getExceptionTypes())
                        .map(Class::getSimpleName).toList());
            }
        }
        Map<String, String> got = new TreeMap<>();
        for (MatchResult row : rows(CALL_ROW)) {
            int parameters = row.group(2).isEmpty() ? 0 : row.group(2).split(",").length;
            List<String> thrown = Pattern.compile("\\w+Exception").matcher(row.group(3)).results()
                    .map(MatchResult::group).toList();
            Checks.due(false, got.containsKey(row.group(1)), row.group(1) + " stands twice");
            got.put(row.group(1), parameters + " " + thrown);
        }
        Checks.due(want, got);
    }

    static void testTablesTellTheExceptions() throws IOException {
        String document = onOneLine(Files.readString(DOCUMENT));
        String readme = Files.readString(README);
        List<String> faults = Pattern.compile("Throws `(\\w+)`").matcher(document).results()
                .map(MatchResult::group).distinct()
                .filter(thrown -> !readme.contains("\n| " + thrown.replace("Throws ", "") + " | ")).toList();
        Checks.due(List.of(), faults);
    }

    static void testCommandsAreTheDocuments() throws IOException {
        String document = onOneLine(Files.readString(DOCUMENT));
        String grammar = rows(COMMAND_ROW).stream().map(row -> inGrammar(row.group(1)))
                .collect(Collectors.joining(" | "));
        Checks.due(true, document.contains("command = " + grammar + " number ="), grammar);
        Matcher sentence = Pattern.compile("The commands correspond to the methods (.*?), with the").matcher(document);
        Checks.due(true, sentence.find(), "the document tells the methods of the commands");
        List<String> methods = List.of(sentence.group(1).replaceAll(" \\(\\w+\\)", "").split(", | and "));
        Checks.due(methods, rows(COMMAND_ROW).stream().map(row -> row.group(2)).toList());
    }

    private static List<MatchResult> rows(Pattern row) throws IOException {
        return row.matcher(Files.readString(README)).results().toList();
    }

    private static String onOneLine(String text) {
        return text.replaceAll("\\s+", " ");
    }

    /** Turns "attack number>number" into the form of the document's grammar. */
    private static String inGrammar(String command) {
        return ("\"" + command.replaceAll("number|digit", "\" $0 \"") + "\"").replaceAll(" \"\"$", "");
    }

    private static List<String> exampleLines() throws IOException {
        return BLOCK.matcher(Files.readString(README)).results()
                .flatMap(block -> block.group(1).lines())
                .toList();
    }

    /** Turns a line that tells an outcome into one that notes the outcome, and adds the told one to those wanted. */
    private static String told(String text, List<String> want) {
        Matcher call = TOLD_CALL.matcher(text);
        Checks.due(true, call.matches() && !text.startsWith(" "), text);
        Matcher outcome = TOLD_OUTCOME.matcher(call.group(4));
        Checks.due(true, outcome.matches(), text);
        String expression = call.group(3);
        String variable = call.group(2);
        want.add(expression + " " + (outcome.group(1) != null ? outcome.group(1) : outcome.group(2)));
        if (variable != null) {
            return text + "\nnote(\"" + expression + "\", " + variable + ");";
        }
        return "try { note(\"" + expression + "\", " + expression + "); } "
                + "catch (RuntimeException thrown) { noteThrown(\"" + expression + "\", thrown); }";
    }

    private static List<String> outcomesOf(String body) throws IOException, ReflectiveOperationException {
        Path directory = Files.createTempDirectory("readme");
        try {
            return run(body, directory);
        } finally {
            for (File file : directory.toFile().listFiles()) {
                Files.delete(file.toPath());
            }
            Files.delete(directory);
        }
    }

    private static List<String> run(String body, Path directory) throws IOException, ReflectiveOperationException {
        Path source = Files.writeString(directory.resolve("ReadmeExample.java"), PROGRAM.formatted(body));
        int compiled = ToolProvider.getSystemJavaCompiler().run(null, null, null, "-d", directory.toString(),
                "-classpath", System.getProperty("java.class.path"), source.toString());
        Checks.due(0, compiled, "the examples compile");
        try (URLClassLoader loader = new URLClassLoader(new URL[] {directory.toUri().toURL()})) {
            List<?> outcomes = (List<?>) loader.loadClass("ReadmeExample").getMethod("outcomes").invoke(null);
            return outcomes.stream().map(Object::toString).toList();
        }
    }
}
