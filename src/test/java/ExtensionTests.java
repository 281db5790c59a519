import java.util.NoSuchElementException;

/** Promises 31 to 37: sets of arguments that are stable, admissible or preferred. */
final class ExtensionTests {
    /** Two that exclude each other, both against a third, which alone is against a fourth. */
    private static final String FLOATING = "0>1 1>0 0>2 1>2 2>3";
    private static final String TRIANGLE = "0>1 1>2 2>0";

    private ExtensionTests() {
    }

    private static void dueStable(int want, ArgumentMap map) {
        Checks.due(want, map.stableCount(), "stableCount");
        Checks.due(want, map.stableCountByLabels(), "stableCountByLabels");
    }

    private static void stableSets() {
        dueStable(1, new ArgumentMap());
        dueStable(1, Maps.of(1, 2, 3));
        dueStable(1, Maps.ofEqual(3, "0>1 1>2"));
        dueStable(2, Maps.ofEqual(2, "0>1 1>0"));
        dueStable(0, Maps.ofEqual(3, TRIANGLE));
        dueStable(2, Maps.ofEqual(4, TRIANGLE.replace("2>0", "2>3 3>0")));
        dueStable(2, Maps.ofEqual(4, FLOATING));
        dueStable(0, Maps.ofEqual(4, TRIANGLE + " 0>3"));
        dueStable(16, Maps.ofEqual(8, "0>1 1>0 2>3 3>2 4>5 5>4 6>7 7>6"));
        dueStable(1, Maps.ofEqual(5, "0>1 1>0 1>2 2>3 3>4 4>2"));
    }

    private static void stableSetsBySuccessfulAttacks() {
        ArgumentMap map = Maps.of(5, 6);
        Maps.attack(map, "0>1 1>0");
        dueStable(1, map);
        map.pass(90);
        dueStable(2, map);
    }

    static void promise31StableSetsByAllSets() {
        stableSets();
        stableSetsBySuccessfulAttacks();
    }

    static void promise32StableSetsByLabels() {
        stableSets();
        stableSetsBySuccessfulAttacks();
    }

    @Says("Returns the number of preferred sets.")
    static void promise33PreferredSets() {
        Checks.due(1, new ArgumentMap().preferredCount());
        Checks.due(1, Maps.of(1, 2).preferredCount());
        Checks.due(1, Maps.ofEqual(3, TRIANGLE).preferredCount(), "the empty set alone");
        Checks.due(2, Maps.ofEqual(4, FLOATING).preferredCount());
        Checks.due(16, Maps.ofEqual(8, "0>1 1>0 2>3 3>2 4>5 5>4 6>7 7>6").preferredCount());
        Checks.due(2, Maps.ofEqual(5, "0>1 1>0 1>2 2>3 3>4 4>2").preferredCount(), "{0} and {1, 3}");
        ArgumentMap map = Maps.of(5, 6);
        Maps.attack(map, "0>1 1>0");
        Checks.due(1, map.preferredCount());
    }

    static void promise33FewerArgumentsThanBefore() {
        ArgumentMap map = Maps.ofEqual(4, "0>1 1>0 2>3 3>2");
        Checks.due(4, map.preferredCount());
        map.removeArgument(0);
        Checks.due(2, map.preferredCount());
        map.removeArgument(3);
        Checks.due(1, map.preferredCount());
    }

    static void promise34GreatestAdmissibleSet() {
        Checks.due(0, new ArgumentMap().greatestAdmissible());
        Checks.due(3, Maps.of(1, 2, 3).greatestAdmissible());
        Checks.due(0, Maps.ofEqual(3, TRIANGLE).greatestAdmissible());
        Checks.due(2, Maps.ofEqual(4, FLOATING).greatestAdmissible());
        Checks.due(2, Maps.ofEqual(5, "0>1 1>0 1>2 2>3 3>4 4>2").greatestAdmissible());
        Checks.due(4, Maps.ofEqual(5, "0>1 0>2 0>3 0>4 1>0").greatestAdmissible());
        Checks.due(8, Maps.of(1, 1, 1, 1, 1, 1, 1, 1).greatestAdmissible());
    }

    static void promise35CredibleInOnePreferredSet() {
        ArgumentMap map = Maps.ofEqual(4, FLOATING);
        Checks.due(true, map.isCredible(0));
        Checks.due(true, map.isCredible(1));
        Checks.due(false, map.isCredible(2));
        Checks.due(true, map.isCredible(3));
        Checks.due(false, Maps.ofEqual(3, TRIANGLE).isCredible(0));
        Checks.refused(NoSuchElementException.class, () -> map.isCredible(4));
    }

    static void promise36CertainInAllPreferredSets() {
        ArgumentMap map = Maps.ofEqual(5, FLOATING);
        Checks.due(false, map.isCertain(0));
        Checks.due(false, map.isCertain(1));
        Checks.due(false, map.isCertain(2));
        Checks.due(true, map.isCertain(3));
        Checks.due(true, map.isCertain(4));
        Checks.due(false, Maps.ofEqual(3, TRIANGLE).isCertain(0));
        Checks.refused(NoSuchElementException.class, () -> map.isCertain(5));
    }

    static void promise37TogetherInOnePreferredSet() {
        ArgumentMap map = Maps.ofEqual(5, FLOATING);
        Checks.due(true, map.canStandTogether(0, 3));
        Checks.due(true, map.canStandTogether(3, 1));
        Checks.due(false, map.canStandTogether(0, 1));
        Checks.due(false, map.canStandTogether(2, 4));
        Checks.due(true, map.canStandTogether(0, 0));
        Checks.due(false, map.canStandTogether(2, 2));
        Checks.refused(NoSuchElementException.class, () -> map.canStandTogether(0, 5));
        Checks.refused(NoSuchElementException.class, () -> map.canStandTogether(5, 0));
    }

    static void promise37BothCredibleButNotTogether() {
        ArgumentMap map = Maps.ofEqual(4, "0>1 1>0 2>0 0>2 3>1 1>3");
        Checks.due(true, map.canStandTogether(0, 3));
        Checks.due(true, map.canStandTogether(1, 2));
        Checks.due(true, map.canStandTogether(2, 3));
        Checks.due(false, map.canStandTogether(0, 2));
    }
}
