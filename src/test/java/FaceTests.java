import java.io.IOException;
import java.lang.reflect.Constructor;
import java.lang.reflect.Member;
import java.lang.reflect.Method;
import java.lang.reflect.Modifier;
import java.nio.file.Files;
import java.nio.file.Path;
import java.util.ArrayList;
import java.util.Arrays;
import java.util.List;
import java.util.Set;
import java.util.TreeSet;
import java.util.stream.Collectors;
import java.util.stream.Stream;

/** The face of the class against the one in the document, and what LANGUAGE.md asks of the members. */
final class FaceTests {
    private static final Path DOCUMENT = Path.of("../shared/DOC.md");

    private FaceTests() {
    }

    static void testFaceIsTheDocuments() throws IOException {
        Set<String> want = new TreeSet<>();
        for (String text : Files.readAllLines(DOCUMENT)) {
            if (text.startsWith("    public ")) {
                want.add(text.trim().replaceAll(" [a-z]\\w*(?=[,)])", ""));
            }
        }
        Set<String> got = new TreeSet<>();
        for (Constructor<?> constructor : ArgumentMap.class.getDeclaredConstructors()) {
            got.add("public ArgumentMap(" + names(constructor.getParameterTypes()) + ");");
        }
        for (Method method : ArgumentMap.class.getDeclaredMethods()) {
            if (!Modifier.isPrivate(method.getModifiers()) && !method.isSynthetic()) {
                got.add(face(method));
            }
        }
        Checks.due(want, got);
        Checks.due(true, Modifier.isFinal(ArgumentMap.class.getModifiers()));
    }

    private static String face(Method method) {
        String thrown = names(method.getExceptionTypes());
        return Modifier.toString(method.getModifiers()) + " " + method.getReturnType().getSimpleName() + " "
                + method.getName() + "(" + names(method.getParameterTypes()) + ")"
                + (thrown.isEmpty() ? "" : " throws " + thrown) + ";";
    }

    private static String names(Class<?>[] types) {
        return Arrays.stream(types).map(Class::getSimpleName).collect(Collectors.joining(", "));
    }

    static void testMembersAreAsTheLanguageAsks() {
        Set<String> faceNames = Stream.of(ArgumentMap.class.getMethods())
                .filter(method -> method.getDeclaringClass() == ArgumentMap.class)
                .map(Method::getName)
                .collect(Collectors.toSet());
        List<String> faults = new ArrayList<>();
        Stream.of(ArgumentMap.class.getDeclaredFields())
                .filter(field -> !Modifier.isPrivate(field.getModifiers()) && !field.isSynthetic())
                .forEach(field -> faults.add("not private: " + field));
        List<Class<?>> classes = new ArrayList<>(List.of(ArgumentMap.class.getDeclaredClasses()));
        for (Class<?> inside : classes) {
            if (!Modifier.isStatic(inside.getModifiers()) || Modifier.isPublic(inside.getModifiers())) {
                faults.add("not static or not hidden: " + inside);
            }
        }
        classes.add(ArgumentMap.class);
        classes.stream()
                .flatMap(owner -> Stream.of(owner.getDeclaredMethods()))
                .filter(method -> isPrivateOrInside(method) && faceNames.contains(method.getName()))
                .forEach(method -> faults.add("bears the name of a public one: " + method));
        classes.stream()
                .flatMap(owner -> Stream.of(owner.getDeclaredFields()))
                .filter(field -> Modifier.isStatic(field.getModifiers()) && !Modifier.isFinal(field.getModifiers()))
                .forEach(field -> faults.add("static and not final: " + field));
        Checks.due(List.of(), faults);
    }

    private static boolean isPrivateOrInside(Member method) {
        return method.getDeclaringClass() != ArgumentMap.class || Modifier.isPrivate(method.getModifiers());
    }
}
