import java.util.NoSuchElementException;

/** Promises 13 to 24, 42, 50 and 51: days, arguments, attacks, and the strengths of all. */
final class QueryTests {
    private QueryTests() {
    }

    static void promise13DaysAddUp() {
        ArgumentMap map = new ArgumentMap();
        map.pass(1);
        map.pass(90);
        map.pass(90);
        Checks.due(181, map.day());
    }

    static void promise14ArgumentsAreCounted() {
        ArgumentMap map = Maps.of(1, 2, 3);
        Checks.due(3, map.argumentCount());
        map.removeArgument(0);
        Checks.due(2, map.argumentCount());
    }

    static void promise15IdsInOrder() {
        ArgumentMap map = Maps.of(1, 2, 3, 4);
        map.removeArgument(1);
        Checks.due(0, map.idAt(0));
        Checks.due(2, map.idAt(1));
        Checks.due(3, map.idAt(2));
        Checks.refused(IndexOutOfBoundsException.class, () -> map.idAt(3));
        Checks.refused(IndexOutOfBoundsException.class, () -> map.idAt(-1));
        Checks.refused(IndexOutOfBoundsException.class, () -> map.idAt(8));
    }

    @Says("Returns the weight of an argument.")
    static void promise16Weights() {
        ArgumentMap map = Maps.of(1, 2, 3);
        map.removeArgument(0);
        map.pass(50);
        Checks.due(2, map.weightOf(1));
        Checks.due(3, map.weightOf(2));
        Checks.refused(NoSuchElementException.class, () -> map.weightOf(0));
        Checks.refused(NoSuchElementException.class, () -> map.weightOf(3));
    }

    @Says("Returns the age of an argument.")
    static void promise17AgesEndAtNinety() {
        ArgumentMap map = Maps.of(1);
        map.pass(45);
        map.addArgument(1);
        map.pass(44);
        Checks.due(89, map.ageOf(0));
        map.pass(2);
        Checks.due(90, map.ageOf(0));
        Checks.due(46, map.ageOf(1));
        Checks.refused(NoSuchElementException.class, () -> map.ageOf(2));
        Checks.refused(NoSuchElementException.class, () -> map.ageOf(-1));
    }

    @Says("Returns the strength of an argument.")
    static void promise18StrengthFades() {
        ArgumentMap map = Maps.of(9, 2);
        map.pass(9);
        Checks.due(9, map.strengthOf(0));
        map.pass(1);
        Checks.due(8, map.strengthOf(0));
        Checks.due(1, map.strengthOf(1));
        map.pass(69);
        Checks.due(2, map.strengthOf(0));
        Checks.due(1, map.strengthOf(1));
        map.pass(21);
        Checks.due(1, map.strengthOf(0));
        Checks.refused(NoSuchElementException.class, () -> map.strengthOf(2));
    }

    static void promise19AttacksAreCountedSuccessfulOrNot() {
        ArgumentMap map = Maps.of(1, 9);
        Checks.due(0, map.attackCount());
        map.addAttack(0, 1);
        Checks.due(1, map.attackCount());
        map.addAttack(1, 0);
        Checks.due(2, map.attackCount());
    }

    @Says("Returns whether there is an attack, successful or not.")
    static void promise20AttackHasADirection() {
        ArgumentMap map = Maps.of(1, 9);
        map.addAttack(0, 1);
        Checks.due(true, map.hasAttack(0, 1));
        Checks.due(false, map.hasAttack(1, 0));
        Checks.due(false, map.hasAttack(0, 0));
        Checks.refused(NoSuchElementException.class, () -> map.hasAttack(0, 2));
        Checks.refused(NoSuchElementException.class, () -> map.hasAttack(2, 0));
        Checks.refused(NoSuchElementException.class, () -> map.hasAttack(2, 2));
    }

    @Says("Returns whether an attack is successful.")
    static void promise21SuccessNeedsAsMuchStrength() {
        ArgumentMap map = Maps.of(5, 6, 5);
        Maps.attack(map, "0>1 1>0 0>2");
        Checks.due(false, map.isSuccessful(0, 1));
        Checks.due(true, map.isSuccessful(1, 0));
        Checks.due(true, map.isSuccessful(0, 2));
        Checks.refused(NoSuchElementException.class, () -> map.isSuccessful(2, 0));
        Checks.refused(NoSuchElementException.class, () -> map.isSuccessful(0, 0));
        Checks.refused(NoSuchElementException.class, () -> map.isSuccessful(0, 3));
        Checks.refused(NoSuchElementException.class, () -> map.isSuccessful(3, 0));
    }

    static void promise22SuccessfulAttacksAreCounted() {
        ArgumentMap map = Maps.of(5, 6, 5);
        Checks.due(0, map.successfulCount());
        Maps.attack(map, "0>1 1>0 0>2 2>0");
        Checks.due(3, map.successfulCount());
        map.removeArgument(2);
        Checks.due(1, map.successfulCount());
    }

    static void promise23AttackersAreCounted() {
        ArgumentMap map = Maps.of(5, 6, 5, 4);
        Maps.attack(map, "1>0 2>0 3>0 0>1");
        Checks.due(2, map.attackerCount(0));
        Checks.due(0, map.attackerCount(1));
        Checks.due(0, map.attackerCount(2));
        Checks.refused(NoSuchElementException.class, () -> map.attackerCount(4));
    }

    static void promise24AttackersInTheOrderOfIds() {
        ArgumentMap map = Maps.of(5, 5, 6, 4, 5);
        map.removeArgument(0);
        Maps.attack(map, "4>1 3>1 2>1");
        Checks.due(2, map.attackerAt(1, 0));
        Checks.due(4, map.attackerAt(1, 1));
        Checks.refused(IndexOutOfBoundsException.class, () -> map.attackerAt(1, 2));
        Checks.refused(IndexOutOfBoundsException.class, () -> map.attackerAt(1, -1));
        Checks.refused(NoSuchElementException.class, () -> map.attackerAt(0, -1));
        Checks.refused(IndexOutOfBoundsException.class, () -> map.attackerAt(2, 0));
    }

    static void promise24FirstAndLastArgumentAsAttackers() {
        ArgumentMap map = Maps.ofEqual(8, "7>3 0>3");
        Checks.due(0, map.attackerAt(3, 0));
        Checks.due(7, map.attackerAt(3, 1));
    }

    static void promise42OrderOfStrengths() {
        ArgumentMap map = Maps.of(5, 7, 5, 5, 7, 9);
        map.removeArgument(5);
        Maps.attack(map, "0>1 4>1 1>0 2>3");
        Checks.due(4, map.argumentByStrength(0), "7 without attackers");
        Checks.due(1, map.argumentByStrength(1), "7 with one attacker, as 0 is too weak");
        Checks.due(2, map.argumentByStrength(2), "5 without attackers");
        Checks.due(0, map.argumentByStrength(3), "5 with one attacker and the lower id");
        Checks.due(3, map.argumentByStrength(4));
        Checks.refused(NoSuchElementException.class, () -> map.argumentByStrength(5));
        Checks.refused(NoSuchElementException.class, () -> map.argumentByStrength(-1));
        Checks.refused(NoSuchElementException.class, () -> new ArgumentMap().argumentByStrength(0));
    }

    static void promise50MeanOfStrengths() {
        ArgumentMap map = Maps.of(9, 4, 5);
        Checks.due(6.0, map.meanStrength());
        map.pass(40);
        Checks.due(7.0 / 3, map.meanStrength());
        Checks.refused(ArithmeticException.class, () -> new ArgumentMap().meanStrength());
    }

    static void promise51ShareOfAccepted() {
        ArgumentMap map = Maps.ofEqual(3, "0>1");
        Checks.due(2f / 3, map.acceptedShare());
        Maps.attack(map, "1>0 0>2 1>2 2>0");
        Checks.due(0f, map.acceptedShare());
        Checks.due(1f, Maps.of(3).acceptedShare());
        Checks.refused(ArithmeticException.class, () -> new ArgumentMap().acceptedShare());
    }
}
