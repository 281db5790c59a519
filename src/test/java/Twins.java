import java.util.function.Function;
import java.util.function.Supplier;

/**
 * Maps that are made alike, of which some take one call more. What they answer afterwards tells what that call has
 * changed, also what no question shows at once: the input buffer, the next free id, the changes and the saved copy.
 */
final class Twins {
    private Twins() {
    }

    /** The call throws this exception, and leaves everything as it was. */
    static void refused(Class<? extends RuntimeException> want, Supplier<ArgumentMap> setup,
            Function<ArgumentMap, Object> call) {
        Checks.due(aftermath(setup), aftermath(() -> {
            ArgumentMap map = setup.get();
            Checks.refused(want, () -> call.apply(map));
            return map;
        }));
    }

    /** The call answers, and leaves everything as it was. */
    static void answered(Object want, Supplier<ArgumentMap> setup, Function<ArgumentMap, Object> call) {
        Checks.due(aftermath(setup), aftermath(() -> {
            ArgumentMap map = setup.get();
            Checks.due(want, Checks.outcome(() -> call.apply(map)));
            return map;
        }));
    }

    static String aftermath(Supplier<ArgumentMap> setup) {
        return String.join("\n", shown(setup.get()), bufferOf(setup.get()), nextIdOf(setup.get()),
                changesOf(setup.get()), copyOf(setup.get()));
    }

    private static String shown(ArgumentMap map) {
        return Maps.picture(map) + " line '" + Maps.line(map) + "' error " + Checks.outcome(map::errorPosition)
                + " failed " + Checks.outcome(map::failedCommand) + " undoable " + map.undoableCount();
    }

    private static String bufferOf(ArgumentMap map) {
        Object length = Checks.outcome(() -> map.append('0'));
        return "buffer of " + length + " runs " + Checks.outcome(map::run) + " " + shown(map);
    }

    private static String nextIdOf(ArgumentMap map) {
        if (map.argumentCount() == 8) {
            map.removeArgument(map.idAt(0));
        }
        return "next id " + map.addArgument(1);
    }

    private static String changesOf(ArgumentMap map) {
        StringBuilder changes = new StringBuilder("changes");
        while (map.undoableCount() > 0) {
            changes.append(' ').append(map.undo()).append(": ").append(Maps.picture(map));
        }
        return changes.append(' ').append(nextIdOf(map)).toString();
    }

    private static String copyOf(ArgumentMap map) {
        return "copy of " + Checks.outcome(map::restore) + ": " + shown(map) + " " + nextIdOf(map);
    }
}
