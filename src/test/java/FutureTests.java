import java.util.NoSuchElementException;

/** Promises 40 and 41: the labels after days that do not pass. */
final class FutureTests {
    private FutureTests() {
    }

    private static ArgumentMap fading() {
        ArgumentMap map = Maps.of(9, 5);
        Maps.attack(map, "0>1 1>0");
        return map;
    }

    static void promise40DaysUntilALabelChanges() {
        ArgumentMap map = fading();
        Checks.due(80, map.daysUntilChange());
        map.pass(79);
        Checks.due(1, map.daysUntilChange());
        map.pass(1);
        Checks.refused(NoSuchElementException.class, () -> map.daysUntilChange());
        Checks.due(80, map.day());
    }

    static void promise40ChangesThatLaterDaysUndo() {
        ArgumentMap map = Maps.of(5);
        map.pass(5);
        map.addArgument(5);
        map.addAttack(0, 1);
        Checks.due(5, map.daysUntilChange());
        map.pass(5);
        Checks.due(5, map.daysUntilChange());
    }

    static void promise40FromAcceptedOrUndecidedAlone() {
        ArgumentMap map = Maps.of(5, 5, 6);
        Maps.attack(map, "0>1 1>0 0>2");
        Checks.due("uua", Maps.labels(map));
        Checks.due(50, map.daysUntilChange());
        Checks.due('u', map.statusAfter(2, 50));
        ArgumentMap other = Maps.of(9, 9, 6, 5);
        Maps.attack(other, "0>1 1>0 0>2 3>2");
        Checks.due("uuua", Maps.labels(other));
        Checks.due(50, other.daysUntilChange());
        Checks.due('r', other.statusAfter(2, 50));
    }

    static void promise40ChangesWithoutLabels() {
        ArgumentMap map = Maps.of(9, 5, 9);
        Maps.attack(map, "0>1 1>0 2>1");
        Checks.refused(NoSuchElementException.class, () -> map.daysUntilChange());
        Checks.refused(NoSuchElementException.class, () -> new ArgumentMap().daysUntilChange());
    }

    static void promise40NinetyDaysAreLooked() {
        ArgumentMap map = Maps.of(9, 1);
        Maps.attack(map, "1>0");
        Checks.due(80, map.daysUntilChange());
        ArgumentMap later = Maps.of(1);
        later.pass(90);
        later.addArgument(9);
        later.addAttack(0, 1);
        Checks.due(80, later.daysUntilChange());
    }

    static void promise40AndFromUndecided() {
        ArgumentMap map = Maps.of(5, 5);
        Maps.attack(map, "0>1 1>0");
        map.pass(5);
        map.renew(0);
        Checks.due(5, map.daysUntilChange());
        Checks.due("uu", Maps.labels(map));
    }

    static void promise41StatusAfterDays() {
        ArgumentMap map = fading();
        Checks.due('a', map.statusAfter(0, 0));
        Checks.due('r', map.statusAfter(1, 0));
        Checks.due('r', map.statusAfter(1, 79));
        Checks.due('u', map.statusAfter(1, 80));
        Checks.due('u', map.statusAfter(0, 90));
        Checks.due(0, map.day());
        Checks.due(0, map.ageOf(0));
        Checks.due(4, map.undoableCount());
    }

    static void promise41Refusals() {
        ArgumentMap map = fading();
        Checks.refused(IllegalArgumentException.class, () -> map.statusAfter(0, -1));
        Checks.refused(IllegalArgumentException.class, () -> map.statusAfter(0, 91));
        Checks.refused(NoSuchElementException.class, () -> map.statusAfter(2, 0));
        Checks.refused(NoSuchElementException.class, () -> map.statusAfter(2, 91));
    }
}
