import java.lang.reflect.InvocationTargetException;
import java.lang.reflect.Method;
import java.util.Comparator;
import java.util.List;
import java.util.Set;
import java.util.TreeSet;
import java.util.stream.Stream;

/** Runs every test: each static method of the classes below whose name begins with one of the words below. */
public final class AllTests {
    private static final List<Class<?>> CLASSES = List.of(ChangeTests.class, QueryTests.class, DialogueTests.class,
            AcceptanceTests.class, ExtensionTests.class, FutureTests.class, LineTests.class, ProgramTests.class,
            UndoTests.class, UnknownIdTests.class, RefusalTests.class, ChangeBoundTests.class,
            QuestionBoundTests.class, ProgramBoundTests.class, TermTests.class, AcceptanceTermTests.class,
            DialogueTermTests.class, CommandTermTests.class, UndoTermTests.class, SentenceTests.class, FaceTests.class,
            ReadmeTests.class, RandomRunTests.class);
    private static final List<String> WORDS = List.of("promise", "terms", "about", "test");
    static final int PROMISES = 63;

    private AllTests() {
    }

    public static void main(String[] arguments) throws IllegalAccessException {
        int passed = 0;
        int failed = 0;
        Set<Integer> untested = new TreeSet<>();
        for (int promise = 1; promise <= PROMISES; promise++) {
            untested.add(promise);
        }
        for (Method test : tests()) {
            if (test.getName().startsWith("promise")) {
                untested.remove(Integer.parseInt(test.getName().substring(7, 9)));
            }
            if (passes(test)) {
                passed++;
            } else {
                failed++;
            }
        }
        if (!untested.isEmpty()) {
            System.out.println("no test names the promises " + untested);
            failed++;
        }
        System.out.println(passed + " passed, " + failed + " failed");
        System.exit(failed == 0 ? 0 : 1);
    }

    static List<Method> tests() {
        return CLASSES.stream()
                .flatMap(tested -> Stream.of(tested.getDeclaredMethods()))
                .filter(method -> !method.isSynthetic() && WORDS.stream().anyMatch(method.getName()::startsWith))
                .sorted(Comparator.comparing(Method::getName))
                .toList();
    }

    private static boolean passes(Method test) throws IllegalAccessException {
        try {
            test.invoke(null);
            return true;
        } catch (InvocationTargetException failure) {
            System.out.println(test.getDeclaringClass().getName() + "." + test.getName() + " failed");
            failure.getCause().printStackTrace(System.out);
            return false;
        }
    }
}
