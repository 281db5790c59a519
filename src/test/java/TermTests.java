import java.util.NoSuchElementException;

/** The sections "What it is" and "Terms" up to attacks and days, and the errors. */
final class TermTests {
    private TermTests() {
    }

    @Says("An object is used for at most 512 calls after it has been made")
    static void aboutAllCallsAreAnswered() {
        ArgumentMap map = new ArgumentMap();
        for (int call = 0; call < 512; call += 2) {
            Checks.due(call / 2, map.addArgument(5));
            Checks.due(0, map.removeArgument(call / 2));
        }
        ArgumentMap later = new ArgumentMap();
        for (int call = 1; call < 512; call++) {
            later.pass(90);
        }
        Checks.due(511 * 90, later.day());
        ArgumentMap talking = Maps.of(5);
        for (int call = 1; call < 510; call += 2) {
            talking.startDialogue(0);
            Checks.due('p', talking.endDialogue());
        }
        Checks.due(255, talking.dialogueTotal());
    }

    @Says("Integer divisions round towards zero.")
    static void termsDivisionsRoundTowardsZero() {
        ArgumentMap map = Maps.of(9);
        map.pass(9);
        Checks.due(9, map.strengthOf(0), "after 9 days");
        map.pass(1);
        Checks.due(8, map.strengthOf(0), "after 10 days");
        map.pass(9);
        Checks.due(8, map.strengthOf(0), "after 19 days");
        map.pass(1);
        Checks.due(7, map.strengthOf(0), "after 20 days");
    }

    // ---- arguments

    @Says("At most 8 arguments are in the map.")
    static void termsEightArguments() {
        ArgumentMap map = new ArgumentMap();
        for (int count = 1; count <= 8; count++) {
            map.addArgument(count);
            Checks.due(count, map.argumentCount());
        }
        Checks.refused(IllegalStateException.class, () -> map.addArgument(1));
        Checks.due(8, map.argumentCount());
        Maps.type(map, "add 1");
        Checks.refused(IllegalStateException.class, map::run);
        Checks.due(8, map.argumentCount());
        Checks.due(2, Maps.run(map, "remove 0;add 1"));
        Checks.due(8, map.argumentCount());
        Checks.due(8, map.idAt(7));
    }

    @Says("A new argument gets the next free id: the first argument has id 0, and each further argument has the id of "
            + "the argument added before it plus 1.")
    static void termsIdsAreNotGivenAgain() {
        ArgumentMap map = new ArgumentMap();
        Checks.due(0, map.addArgument(5));
        Checks.due(1, map.addArgument(5));
        map.removeArgument(1);
        Checks.due(2, map.addArgument(5), "after the latest one has left");
        map.removeArgument(0);
        Checks.due(3, map.addArgument(5), "after the first one has left");
        map.removeArgument(2);
        map.removeArgument(3);
        Checks.due(4, map.addArgument(5), "after all have left");
        Maps.run(map, "add 1;add 2");
        Checks.due(7, map.addArgument(5), "after two that a program added");
        Checks.refused(IllegalArgumentException.class, () -> map.addArgument(0));
        Checks.due(8, map.addArgument(5), "after a refused one");
    }

    @Says("Undo and restore also take back the next free id.")
    static void termsUndoTakesTheNextFreeIdBack() {
        ArgumentMap map = Maps.of(5, 5);
        map.undo();
        Checks.due(1, map.addArgument(5));
        map.removeArgument(1);
        map.undo();
        Checks.due(2, map.addArgument(5), "taking a removal back gives no id free");
        Maps.run(map, "add 1;add 1;remove 3");
        map.undo();
        Checks.due(3, map.addArgument(5));
    }

    @Says("Undo and restore also take back the next free id.")
    static void termsRestoreTakesTheNextFreeIdBack() {
        ArgumentMap map = Maps.of(5, 5);
        map.removeArgument(1);
        map.save();
        Checks.due(2, map.addArgument(5));
        Checks.due(3, map.addArgument(5));
        map.restore();
        Checks.due(2, map.addArgument(5));
    }

    @Says("An argument has a weight from 1 to 9 and an age in days, initially 0.")
    static void termsWeightAndAge() {
        ArgumentMap map = Maps.of(1);
        map.pass(90);
        Checks.due(1, map.addArgument(9));
        Checks.due(1, map.weightOf(0));
        Checks.due(9, map.weightOf(1));
        Checks.due(0, map.ageOf(1));
        Checks.refused(IllegalArgumentException.class, () -> map.addArgument(0));
        Checks.refused(IllegalArgumentException.class, () -> map.addArgument(10));
        Checks.refused(IllegalArgumentException.class, () -> map.setWeight(0, 0));
        Checks.refused(IllegalArgumentException.class, () -> map.setWeight(0, 10));
        map.removeArgument(1);
        map.addArgument(9);
        map.pass(7);
        map.removeArgument(2);
        map.addArgument(3);
        Checks.due(0, map.ageOf(3), "the age of one that stands where another stood");
    }

    @Says("Its strength is its weight minus a tenth of its age, but at least 1.")
    static void termsStrengthOfEachWeightAtEachAge() {
        for (int weight = 1; weight <= 9; weight++) {
            ArgumentMap map = Maps.of(weight);
            for (int age = 0; age <= 90; age++) {
                Checks.due(Math.max(1, weight - age / 10), map.strengthOf(0), "weight " + weight + ", age " + age);
                map.pass(1);
            }
            Checks.due(1, map.strengthOf(0));
        }
    }

    // ---- attacks

    @Says("At most 20 attacks are in the map.")
    static void termsTwentyAttacks() {
        ArgumentMap map = Maps.fullOfAttacks();
        Checks.due(20, map.attackCount());
        Checks.refused(IllegalStateException.class, () -> map.addAttack(5, 4));
        Checks.due(20, map.attackCount());
        Maps.type(map, "attack 5>4");
        Checks.refused(IllegalStateException.class, map::run);
        Checks.due(20, map.attackCount());
        map.removeArgument(0);
        Checks.due(12, map.attackCount());
        Checks.due(13, map.addAttack(5, 4));
        ArgumentMap weak = Maps.fullOfAttacks(1, 2, 3, 4, 5, 6);
        Checks.due(6, weak.successfulCount());
        Checks.due(20, weak.attackCount(), "those that are not successful count too");
        Checks.refused(IllegalStateException.class, () -> weak.addAttack(5, 0));
    }

    @Says("An attack leads from one argument to another one; there is at most one attack from one argument to the same "
            + "other one, and the other argument can attack back.")
    static void termsAttacksFromOneToAnother() {
        ArgumentMap map = Maps.of(5, 5);
        Checks.refused(IllegalArgumentException.class, () -> map.addAttack(0, 0));
        Checks.due(1, map.addAttack(0, 1));
        Checks.due(false, map.hasAttack(1, 0));
        Checks.refused(IllegalStateException.class, () -> map.addAttack(0, 1));
        Checks.due(2, map.addAttack(1, 0));
        Checks.refused(IllegalStateException.class, () -> map.addAttack(1, 0));
        Checks.due(true, map.hasAttack(0, 1));
        Checks.due(true, map.hasAttack(1, 0));
        Checks.due(1, map.removeAttack(0, 1));
        Checks.due(true, map.hasAttack(1, 0), "the attack back stays");
    }

    @Says("An attack is successful if the strength of the attacker is at least the strength of the argument that is "
            + "attacked.")
    static void termsSuccessByStrength() {
        for (int weights = 0; weights < 81; weights++) {
            int attacker = weights / 9 + 1;
            int attacked = weights % 9 + 1;
            ArgumentMap map = Maps.of(attacker, attacked);
            map.addAttack(0, 1);
            Checks.due(attacker >= attacked, map.isSuccessful(0, 1), attacker + " on " + attacked);
            map.pass(40);
            boolean faded = Math.max(1, attacker - 4) >= Math.max(1, attacked - 4);
            Checks.due(faded, map.isSuccessful(0, 1), attacker + " on " + attacked + " after 40 days");
            map.renew(1);
            Checks.due(Math.max(1, attacker - 4) >= attacked, map.isSuccessful(0, 1), attacker + " on new " + attacked);
        }
    }

    @Says("In all that follows, only successful attacks matter, where the attackers of an argument are those arguments "
            + "that attack it successfully.")
    static void termsAttacksThatFailDoNotMatter() {
        ArgumentMap map = Maps.of(4, 5, 4);
        Maps.attack(map, "0>1 1>2 2>1");
        Checks.due(3, map.attackCount());
        Checks.due(1, map.successfulCount());
        Checks.due(0, map.attackerCount(1));
        Checks.refused(IndexOutOfBoundsException.class, () -> map.attackerAt(1, 0));
        Checks.due("aar", Maps.labels(map));
        Checks.due(true, map.isAcceptedByGame(1));
        Checks.due(1, map.stableCount());
        Checks.due(1, map.stableCountByLabels());
        Checks.due(1, map.preferredCount());
        Checks.due(2, map.greatestAdmissible());
        Checks.due(true, map.canStandTogether(0, 1));
        Checks.due(false, map.hasCycle());
        Checks.due(false, map.hasCycleBySearch());
        Checks.due(7, map.formatArgument(1));
        Checks.due(0, map.startDialogue(1));
        Checks.due(false, map.canMove(0));
        Checks.due(1, map.argumentByStrength(0));
    }

    // ---- days

    @Says("When a day passes, the ages of all arguments increase by 1, up to 90.")
    static void termsAgesEndAtNinety() {
        ArgumentMap map = Maps.of(5);
        map.pass(1);
        map.addArgument(5);
        map.pass(88);
        Checks.due(89, map.ageOf(0));
        Checks.due(88, map.ageOf(1));
        map.pass(1);
        Checks.due(90, map.ageOf(0));
        Checks.due(89, map.ageOf(1));
        map.pass(1);
        Checks.due(90, map.ageOf(0));
        Checks.due(90, map.ageOf(1));
        map.pass(90);
        Checks.due(90, map.ageOf(0));
        Checks.due(90, map.ageOf(1));
        Checks.due(181, map.day(), "the days are counted on");
        map.renew(0);
        map.pass(90);
        Checks.due(90, map.ageOf(0));
    }

    // ---- errors

    /** Each method that changes something or answers with an exception, refused once on a map with all there is. */
    @Says("A method that throws an exception leaves the map unchanged, unless its description says otherwise.")
    static void termsRefusedCallsChangeNothing() {
        Twins.refused(IllegalArgumentException.class, Maps::rich, map -> map.addArgument(0));
        Twins.refused(NoSuchElementException.class, Maps::rich, map -> map.removeArgument(3));
        Twins.refused(IllegalArgumentException.class, Maps::rich, map -> map.addAttack(1, 1));
        Twins.refused(NoSuchElementException.class, Maps::rich, map -> map.removeAttack(0, 1));
        Twins.refused(IllegalArgumentException.class, Maps::rich, map -> map.setWeight(0, 10));
        Twins.refused(NoSuchElementException.class, Maps::rich, map -> map.renew(3));
        Twins.refused(IllegalStateException.class, Maps::rich, map -> map.startDialogue(1));
        Twins.refused(IllegalArgumentException.class, Maps::rich, map -> map.move(0));
        Twins.refused(NoSuchElementException.class, Maps::quiet, map -> map.takeBack());
        Twins.refused(NoSuchElementException.class, Maps::quiet, map -> map.endDialogue());
        Twins.refused(IllegalArgumentException.class, Maps::rich, map -> map.pass(91));
        Twins.refused(NoSuchElementException.class, Maps::rich, map -> map.formatArgument(3));
        Twins.refused(NoSuchElementException.class, Maps::quiet, map -> map.formatDialogue());
        Twins.refused(IllegalArgumentException.class, Maps::rich, map -> map.append('\n'));
        Twins.refused(IndexOutOfBoundsException.class, Maps::rich, map -> map.lineChar(9));
        Twins.refused(NoSuchElementException.class, Maps::rich, map -> map.statusAfter(3, 5));
        Twins.refused(IllegalArgumentException.class, Maps::rich, map -> map.statusAfter(0, 91));
    }

    @Says("If several conditions of a method apply, the exception that is listed first is thrown.")
    static void termsFirstListedExceptionOfChanges() {
        Twins.refused(IllegalArgumentException.class, () -> Maps.of(1, 2, 3, 4, 5, 6, 7, 8),
                map -> map.addArgument(10));
        Twins.refused(NoSuchElementException.class, Maps::rich, map -> map.addAttack(3, 3));
        Twins.refused(NoSuchElementException.class, Maps::fullOfAttacks, map -> map.addAttack(0, 6));
        Twins.refused(NoSuchElementException.class, Maps::fullOfAttacks, map -> map.addAttack(6, 6));
        Twins.refused(IllegalArgumentException.class, Maps::fullOfAttacks, map -> map.addAttack(4, 4));
        Twins.refused(NoSuchElementException.class, Maps::rich, map -> map.setWeight(3, 0));
        Twins.refused(NoSuchElementException.class, Maps::rich, map -> map.startDialogue(3));
        Twins.refused(NoSuchElementException.class, Maps::fullDialogue, map -> map.move(8));
        Twins.refused(IllegalArgumentException.class, Maps::fullDialogue, map -> map.move(0));
        Twins.refused(IllegalArgumentException.class, Maps::fullDialogue, map -> map.move(1));
    }

    @Says("If several conditions of a method apply, the exception that is listed first is thrown.")
    static void termsFirstListedExceptionOfTheRest() {
        Twins.refused(NoSuchElementException.class, Maps::rich, map -> map.attackerAt(3, -1));
        Twins.refused(NoSuchElementException.class, Maps::rich, map -> map.statusAfter(3, -1));
        Twins.refused(NoSuchElementException.class, Maps::rich, map -> map.statusAfter(3, 91));
        Twins.refused(IllegalArgumentException.class, () -> Maps.typed(new ArgumentMap(), "x".repeat(60)),
                map -> map.append('\n'));
        ArgumentMap map = Maps.of(5);
        Maps.type(map, "end;add");
        Checks.refused(IllegalArgumentException.class, map::run);
        Checks.refused(NoSuchElementException.class, map::failedCommand);
    }
}
