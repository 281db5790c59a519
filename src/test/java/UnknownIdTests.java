import java.util.NoSuchElementException;

/** The refusals of ids that no argument has: of each method, with ids near and far, gone, and not yet given. */
final class UnknownIdTests {
    private static final int[] KNOWN = {1, 3, 4};
    /** 0, 2 and 5 are gone, 6 is the next free id, and 0 to 2 are positions. */
    private static final int[] UNKNOWN = {Integer.MIN_VALUE, -2, -1, 0, 2, 5, 6, 7, 8, 99, Integer.MAX_VALUE};

    private interface Call {
        Object on(ArgumentMap map, int id);
    }

    private interface CallOfTwo {
        Object on(ArgumentMap map, int id, int other);
    }

    private UnknownIdTests() {
    }

    private static ArgumentMap withGaps() {
        ArgumentMap map = Maps.ofEqual(6, "1>3 3>4 4>1 0>1 1>2");
        map.removeArgument(0);
        map.removeArgument(2);
        map.removeArgument(5);
        return map;
    }

    private static ArgumentMap withGapsAndDialogue() {
        ArgumentMap map = withGaps();
        map.startDialogue(1);
        return map;
    }

    private static void refusesUnknown(Call call) {
        for (int id : UNKNOWN) {
            Twins.refused(NoSuchElementException.class, UnknownIdTests::withGapsAndDialogue, map -> call.on(map, id));
            Twins.refused(NoSuchElementException.class, ArgumentMap::new, map -> call.on(map, id));
        }
        for (int id : KNOWN) {
            due(call, withGapsAndDialogue(), id);
        }
    }

    private static void due(Call call, ArgumentMap map, int id) {
        Object outcome = Checks.outcome(() -> call.on(map, id));
        Checks.due(false, NoSuchElementException.class.equals(outcome), "refusal of " + id);
    }

    private static void refusesUnknown(CallOfTwo call) {
        refusesUnknown((map, id) -> call.on(map, id, id));
        refusesUnknownBeside(call, 1);
        refusesUnknownBeside(call, 4);
    }

    private static void refusesUnknownBeside(CallOfTwo call, int known) {
        for (int id : UNKNOWN) {
            Twins.refused(NoSuchElementException.class, UnknownIdTests::withGaps, map -> call.on(map, id, known));
            Twins.refused(NoSuchElementException.class, UnknownIdTests::withGaps, map -> call.on(map, known, id));
        }
    }

    @Says("Throws `NoSuchElementException` if no argument has this id")
    static void promise03UnknownId() {
        refusesUnknown((map, id) -> map.removeArgument(id));
    }

    @Says("Throws `NoSuchElementException` if no argument has this id, for either")
    static void promise04UnknownIds() {
        refusesUnknown((map, from, to) -> map.addAttack(from, to));
    }

    @Says("Throws `NoSuchElementException` if no argument has this id, for either, or there is no such attack")
    static void promise05UnknownIds() {
        refusesUnknownBeside(ArgumentMap::removeAttack, 1);
        refusesUnknownBeside(ArgumentMap::removeAttack, 4);
        for (int id : UNKNOWN) {
            Twins.refused(NoSuchElementException.class, ArgumentMap::new, map -> map.removeAttack(id, id));
        }
    }

    @Says("Throws `NoSuchElementException` if no argument has this id")
    static void promise06UnknownId() {
        refusesUnknown((map, id) -> map.setWeight(id, 5));
        refusesUnknown((map, id) -> map.setWeight(id, 10));
    }

    @Says("Throws `NoSuchElementException` if no argument has this id")
    static void promise07UnknownId() {
        refusesUnknown((map, id) -> map.renew(id));
    }

    @Says("Throws `NoSuchElementException` if no argument has this id")
    static void promise08UnknownId() {
        refusesUnknown((map, id) -> map.startDialogue(id));
        for (int id : UNKNOWN) {
            Twins.refused(NoSuchElementException.class, UnknownIdTests::withGaps, map -> map.startDialogue(id));
        }
        Checks.due(1, withGaps().startDialogue(3));
    }

    @Says("Throws `NoSuchElementException` if no dialogue is held, or no argument has this id")
    static void promise09UnknownId() {
        refusesUnknown((map, id) -> map.move(id));
    }

    @Says("Throws `NoSuchElementException` if no argument has this id")
    static void promise16UnknownId() {
        refusesUnknown((map, id) -> map.weightOf(id));
    }

    @Says("Throws `NoSuchElementException` if no argument has this id")
    static void promise17UnknownId() {
        refusesUnknown((map, id) -> map.ageOf(id));
    }

    @Says("Throws `NoSuchElementException` if no argument has this id")
    static void promise18UnknownId() {
        refusesUnknown((map, id) -> map.strengthOf(id));
    }

    @Says("Throws `NoSuchElementException` if no argument has this id, for either")
    static void promise20UnknownIds() {
        refusesUnknown((map, from, to) -> map.hasAttack(from, to));
    }

    @Says("Throws `NoSuchElementException` if no argument has this id, for either, or there is no such attack")
    static void promise21UnknownIds() {
        refusesUnknownBeside(ArgumentMap::isSuccessful, 1);
        refusesUnknownBeside(ArgumentMap::isSuccessful, 4);
        for (int id : UNKNOWN) {
            Twins.refused(NoSuchElementException.class, ArgumentMap::new, map -> map.isSuccessful(id, id));
        }
    }

    @Says("Throws `NoSuchElementException` if no argument has this id")
    static void promise23UnknownId() {
        refusesUnknown((map, id) -> map.attackerCount(id));
    }

    @Says("Throws `NoSuchElementException` if no argument has this id")
    static void promise24UnknownId() {
        refusesUnknown((map, id) -> map.attackerAt(id, 0));
        refusesUnknown((map, id) -> map.attackerAt(id, -1));
    }

    @Says("Throws `NoSuchElementException` if no argument has this id")
    static void promise25UnknownId() {
        refusesUnknown((map, id) -> map.status(id));
    }

    @Says("Throws `NoSuchElementException` if no argument has this id, or it is undecided")
    static void promise26UnknownId() {
        for (int id : UNKNOWN) {
            Twins.refused(NoSuchElementException.class, UnknownIdTests::withGaps, map -> map.roundOf(id));
            Twins.refused(NoSuchElementException.class, ArgumentMap::new, map -> map.roundOf(id));
        }
    }

    @Says("Throws `NoSuchElementException` if no argument has this id")
    static void promise27UnknownId() {
        refusesUnknown((map, id) -> map.isAcceptedByGame(id));
    }

    @Says("Throws `NoSuchElementException` if no argument has this id")
    static void promise28UnknownId() {
        refusesUnknown((map, id) -> map.canOpponentWin(id));
    }

    @Says("Throws `NoSuchElementException` if no argument has this id")
    static void promise35UnknownId() {
        refusesUnknown((map, id) -> map.isCredible(id));
    }

    @Says("Throws `NoSuchElementException` if no argument has this id")
    static void promise36UnknownId() {
        refusesUnknown((map, id) -> map.isCertain(id));
    }

    @Says("Throws `NoSuchElementException` if no argument has this id, for either")
    static void promise37UnknownIds() {
        refusesUnknown((map, id, other) -> map.canStandTogether(id, other));
    }

    @Says("Throws `NoSuchElementException` if no argument has this id")
    static void promise41UnknownId() {
        refusesUnknown((map, id) -> map.statusAfter(id, 0));
        refusesUnknown((map, id) -> map.statusAfter(id, 91));
    }

    @Says("Throws `NoSuchElementException` if no dialogue is held, or no argument has this id")
    static void promise46UnknownId() {
        refusesUnknown((map, id) -> map.canMove(id));
    }

    @Says("Throws `NoSuchElementException` if no argument has this id")
    static void promise53UnknownId() {
        refusesUnknown((map, id) -> map.formatArgument(id));
    }
}
