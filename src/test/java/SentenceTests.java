import java.io.IOException;
import java.lang.reflect.Method;
import java.nio.file.Files;
import java.nio.file.Path;
import java.util.ArrayList;
import java.util.Comparator;
import java.util.HashMap;
import java.util.List;
import java.util.Map;

/** The tests against the sentences of the document: each sentence that promises something has a test that tells it. */
final class SentenceTests {
    private static final Path DOCUMENT = Path.of("../shared/DOC.md");
    /** What promises nothing, or only names what another line of its section promises. */
    private static final List<String> NEEDS_NO_TEST = List.of("Arguments.", "Attacks.", "Acceptance.", "Game.",
            "Extensions.", "Dialogues.", "Days.", "Commands.", "Undo.", "Errors.", "The class is not thread-safe.",
            "- `id`: the id of an argument", "- `from`: the id of the argument that attacks",
            "- `to`: the id of the argument that is attacked", "- `character`: the character",
            "Returns the number.", "Returns the id.", "Returns the weight.", "Returns the strength.",
            "Returns true if it is.", "Returns true if there is.", "Returns true if they are.",
            "Returns true if they do.", "Returns true if the proponent can.", "Returns true if the opponent can.",
            "A map of arguments that attack each other: strengths that fade with time, accepted arguments by labels "
                    + "and by a game, extensions, and dialogues between two sides.",
            "; what later calls answer is free.");

    private SentenceTests() {
    }

    static void testEachSentenceHasATest() throws IOException {
        Map<String, String> sections = sections();
        List<String> faults = new ArrayList<>();
        sections.forEach((section, text) -> {
            List<String> known = new ArrayList<>(NEEDS_NO_TEST);
            known.addAll(sentencesTested(section));
            String left = without(text, known);
            if (!left.isBlank()) {
                faults.add(section + " has no test of: " + left);
            }
        });
        Checks.due(List.of(), faults);
    }

    static void testWhatTestsSayStandsInTheDocument() throws IOException {
        Map<String, String> sections = sections();
        List<String> faults = new ArrayList<>();
        for (Method test : AllTests.tests()) {
            String text = sections.getOrDefault(sectionOf(test), "");
            for (String sentence : sentencesOf(test)) {
                if (!text.contains(sentence)) {
                    faults.add(test.getName() + ": " + sentence);
                }
            }
        }
        Checks.due(List.of(), faults);
    }

    static void testEachRefusalHasATestOfItsOwn() {
        List<String> faults = new ArrayList<>();
        for (Method test : AllTests.tests()) {
            List<String> sentences = sentencesOf(test);
            if (sentences.size() > 1 && sentences.stream().anyMatch(sentence -> sentence.startsWith("Throws "))) {
                faults.add(test.getName());
            }
        }
        Checks.due(List.of(), faults);
    }

    /** The text of each section that promises something, in one line, without the signatures at the promises' heads. */
    private static Map<String, String> sections() throws IOException {
        Map<String, String> sections = new HashMap<>();
        for (String section : Files.readString(DOCUMENT).split("(?m)^## ")) {
            String title = section.lines().findFirst().orElse("").replaceAll(":.*", "");
            String text = section.substring(section.indexOf('\n') + 1).replaceAll("\\s+", " ");
            if (title.matches("What it is|Terms|Promise \\d+")) {
                sections.put(title, text.replaceFirst("^ ?`[^`]*\\)[^`]*`: ", ""));
            }
        }
        Checks.due(AllTests.PROMISES + 2, sections.size(), "sections");
        return sections;
    }

    private static String without(String text, List<String> sentences) {
        List<String> longestFirst = new ArrayList<>(sentences);
        longestFirst.sort(Comparator.comparing(String::length).reversed());
        String left = text;
        for (String sentence : longestFirst) {
            left = left.replace(sentence, " ");
        }
        return left.replaceAll("\\s+", " ");
    }

    private static List<String> sentencesTested(String section) {
        List<String> sentences = new ArrayList<>();
        for (Method test : AllTests.tests()) {
            if (sectionOf(test).equals(section)) {
                sentences.addAll(sentencesOf(test));
            }
        }
        return sentences;
    }

    private static List<String> sentencesOf(Method test) {
        Says says = test.getAnnotation(Says.class);
        return says == null ? List.of() : List.of(says.value());
    }

    private static String sectionOf(Method test) {
        String name = test.getName();
        if (name.startsWith("promise")) {
            return "Promise " + Integer.parseInt(name.substring(7, 9));
        }
        return name.startsWith("terms") ? "Terms" : name.startsWith("about") ? "What it is" : "";
    }
}
