import java.util.NoSuchElementException;

/** Promises 1 to 7 and 12: a new map, and the changes of arguments, attacks and days. */
final class ChangeTests {
    private ChangeTests() {
    }

    static void promise01NewMapIsEmpty() {
        ArgumentMap map = new ArgumentMap();
        Checks.due("day 0; moves; totals 0 0 0", Maps.picture(map));
        Checks.due(0, map.argumentCount());
        Checks.due(0, map.attackCount());
        Checks.due(false, map.isDialogueHeld());
        Checks.due(0, map.undoableCount());
        Checks.refused(IndexOutOfBoundsException.class, () -> map.lineChar(0));
    }

    static void promise01MapsAreApart() {
        ArgumentMap map = Maps.ofEqual(2, "0>1");
        ArgumentMap other = new ArgumentMap();
        Checks.due(0, other.argumentCount());
        Checks.due(0, other.addArgument(3));
        Checks.due(5, map.weightOf(0));
    }

    @Says({"Adds an argument.", "Returns the id of the argument."})
    static void promise02IdsCountUp() {
        ArgumentMap map = new ArgumentMap();
        Checks.due(0, map.addArgument(1));
        Checks.due(1, map.addArgument(9));
        Checks.due(9, map.weightOf(1));
        Checks.due(0, map.ageOf(1));
        map.removeArgument(1);
        Checks.due(2, map.addArgument(4));
        map.removeArgument(0);
        map.removeArgument(2);
        Checks.due(3, map.addArgument(4));
    }

    static void promise02RefusedAddingTakesNoId() {
        ArgumentMap map = new ArgumentMap();
        Checks.refused(IllegalArgumentException.class, () -> map.addArgument(0));
        Checks.refused(IllegalArgumentException.class, () -> map.addArgument(10));
        Checks.refused(IllegalArgumentException.class, () -> map.addArgument(Integer.MIN_VALUE));
        Checks.due(0, map.addArgument(5));
        Checks.due(1, map.argumentCount());
    }

    static void promise02EightArgumentsAreAll() {
        ArgumentMap map = Maps.of(1, 2, 3, 4, 5, 6, 7, 8);
        Checks.refused(IllegalStateException.class, () -> map.addArgument(5));
        Checks.refused(IllegalArgumentException.class, () -> map.addArgument(10));
        map.removeArgument(3);
        Checks.due(8, map.addArgument(5));
        Checks.due(8, map.argumentCount());
    }

    static void promise02NewArgumentHasNothingOfTheOneThatStoodThere() {
        ArgumentMap map = Maps.ofEqual(2, "0>1 1>0");
        map.pass(20);
        map.removeArgument(1);
        map.addArgument(7);
        Checks.due("day 20; 0 w5 a20; 2 w7 a0; moves; totals 0 0 0", Maps.picture(map));
        Checks.due(0, map.attackerCount(2));
        Checks.due('a', map.status(2));
    }

    static void promise03AttacksFromAndOnItGo() {
        ArgumentMap map = Maps.ofEqual(4, "0>1 1>0 1>2 2>3 3>1 0>3");
        Checks.due(4, map.removeArgument(1));
        Checks.due(2, map.attackCount());
        Checks.due("day 0; 0 w5 a0 >3; 2 w5 a0 >3; 3 w5 a0; moves; totals 0 0 0", Maps.picture(map));
        Checks.refused(NoSuchElementException.class, () -> map.removeArgument(1));
        Checks.due(2, map.removeArgument(3));
        Checks.due(0, map.removeArgument(0));
        Checks.due(0, map.removeArgument(2));
        Checks.due(0, map.argumentCount());
    }

    static void promise03OthersKeepTheirWeightsAndAges() {
        ArgumentMap map = Maps.of(9);
        for (int weight = 8; weight > 4; weight--) {
            map.pass(10);
            map.addArgument(weight);
        }
        map.removeArgument(1);
        Checks.due("day 40; 0 w9 a40; 2 w7 a20; 3 w6 a10; 4 w5 a0; moves; totals 0 0 0", Maps.picture(map));
    }

    static void promise03EachSlotCanGo() {
        for (int removed = 0; removed < 8; removed++) {
            ArgumentMap map = Maps.ofEqual(8, "0>1 1>2 2>3 3>4 4>5 5>6 6>7 7>0 0>7 7>6");
            map.removeArgument(removed);
            for (int id = 0; id < 8; id++) {
                int next = (id + 1) % 8;
                if (id != removed && next != removed) {
                    Checks.due(true, map.hasAttack(id, next), "attack " + id + " without " + removed);
                }
            }
        }
    }

    static void promise03UnknownIds() {
        ArgumentMap map = Maps.of(5);
        Checks.refused(NoSuchElementException.class, () -> map.removeArgument(1));
        Checks.refused(NoSuchElementException.class, () -> map.removeArgument(-1));
        Checks.due(1, map.argumentCount());
    }

    static void promise04AttacksAreCounted() {
        ArgumentMap map = Maps.of(5, 9);
        Checks.due(1, map.addAttack(0, 1));
        Checks.due(2, map.addAttack(1, 0));
        Checks.due(true, map.hasAttack(0, 1));
        Checks.due(false, map.isSuccessful(0, 1));
        Checks.due(true, map.isSuccessful(1, 0));
    }

    static void promise04Refusals() {
        ArgumentMap map = Maps.ofEqual(2, "0>1");
        Checks.refused(NoSuchElementException.class, () -> map.addAttack(0, 2));
        Checks.refused(NoSuchElementException.class, () -> map.addAttack(2, 0));
        Checks.refused(NoSuchElementException.class, () -> map.addAttack(2, 2));
        Checks.refused(IllegalArgumentException.class, () -> map.addAttack(1, 1));
        Checks.refused(IllegalStateException.class, () -> map.addAttack(0, 1));
        Checks.due(1, map.attackCount());
    }

    static void promise04TwentyAttacksAreAll() {
        ArgumentMap map = Maps.ofEqual(6, "");
        int attacks = 0;
        for (int from = 0; from < 4; from++) {
            for (int to = 0; to < 6; to++) {
                if (from != to) {
                    attacks++;
                    Checks.due(attacks, map.addAttack(from, to));
                }
            }
        }
        Checks.due(20, attacks);
        Checks.refused(IllegalStateException.class, () -> map.addAttack(5, 0));
        Checks.refused(IllegalArgumentException.class, () -> map.addAttack(5, 5));
        Checks.refused(NoSuchElementException.class, () -> map.addAttack(5, 6));
        map.removeAttack(0, 1);
        Checks.due(20, map.addAttack(5, 0));
    }

    static void promise05AttacksGoOneByOne() {
        ArgumentMap map = Maps.ofEqual(3, "0>1 1>0 0>2");
        Checks.due(2, map.removeAttack(0, 1));
        Checks.due(false, map.hasAttack(0, 1));
        Checks.due(true, map.hasAttack(1, 0));
        Checks.due(true, map.hasAttack(0, 2));
        Checks.refused(NoSuchElementException.class, () -> map.removeAttack(0, 1));
        Checks.refused(NoSuchElementException.class, () -> map.removeAttack(2, 0));
        Checks.refused(NoSuchElementException.class, () -> map.removeAttack(0, 3));
        Checks.refused(NoSuchElementException.class, () -> map.removeAttack(3, 0));
        Checks.refused(NoSuchElementException.class, () -> map.removeAttack(0, 0));
        Checks.due(2, map.attackCount());
    }

    static void promise05UnsuccessfulAttacksGoToo() {
        ArgumentMap map = Maps.of(1, 9);
        map.addAttack(0, 1);
        Checks.due(0, map.removeAttack(0, 1));
    }

    @Says({"Sets the weight of an argument, without changing its age.", "Returns the weight before."})
    static void promise06WeightIsSetAndAgeStays() {
        ArgumentMap map = Maps.of(5, 4);
        map.addAttack(1, 0);
        map.pass(15);
        Checks.due(5, map.setWeight(0, 3));
        Checks.due(3, map.weightOf(0));
        Checks.due(15, map.ageOf(0));
        Checks.due(2, map.strengthOf(0));
        Checks.due(true, map.isSuccessful(1, 0));
        Checks.due(3, map.setWeight(0, 3));
        Checks.due(3, map.setWeight(0, 9));
        Checks.due(9, map.setWeight(0, 1));
    }

    static void promise06Refusals() {
        ArgumentMap map = Maps.of(5);
        Checks.refused(NoSuchElementException.class, () -> map.setWeight(1, 5));
        Checks.refused(NoSuchElementException.class, () -> map.setWeight(1, 0));
        Checks.refused(IllegalArgumentException.class, () -> map.setWeight(0, 0));
        Checks.refused(IllegalArgumentException.class, () -> map.setWeight(0, 10));
        Checks.due(5, map.weightOf(0));
    }

    static void promise07AgeBecomesNought() {
        ArgumentMap map = Maps.of(5, 5);
        map.addAttack(0, 1);
        map.addAttack(1, 0);
        map.pass(12);
        Checks.due(12, map.renew(0));
        Checks.due(0, map.ageOf(0));
        Checks.due(12, map.ageOf(1));
        Checks.due(5, map.strengthOf(0));
        Checks.due(false, map.isSuccessful(1, 0));
        Checks.due(true, map.isSuccessful(0, 1));
        Checks.due(0, map.renew(0));
        Checks.due(12, map.day());
        Checks.refused(NoSuchElementException.class, () -> map.renew(2));
        Checks.refused(NoSuchElementException.class, () -> map.renew(-1));
    }

    static void promise12DaysPass() {
        ArgumentMap map = Maps.of(9, 5);
        map.addAttack(0, 1);
        map.addAttack(1, 0);
        Checks.due(0, map.pass(79));
        Checks.due(79, map.day());
        Checks.due(79, map.ageOf(1));
        Checks.due(1, map.pass(1));
        Checks.due(true, map.isSuccessful(1, 0));
        Checks.due(0, map.pass(90));
        Checks.due(170, map.day());
        Checks.due(90, map.ageOf(0));
    }

    static void promise12OnlyBeforeAndAfterwardsCount() {
        ArgumentMap map = Maps.of(5);
        map.pass(5);
        map.addArgument(5);
        map.addAttack(0, 1);
        map.addAttack(1, 0);
        Checks.due(1, map.pass(5), "0 fades first, and attacks in vain");
        Checks.due(1, map.pass(5), "1 fades too");
        Checks.due(0, map.pass(10), "0 fades and 1 fades");
    }

    static void promise12AttacksBeginAndCease() {
        ArgumentMap map = Maps.of(7, 1);
        map.pass(15);
        map.addArgument(6);
        map.addAttack(2, 0);
        map.addAttack(0, 2);
        Checks.due(true, map.isSuccessful(2, 0));
        Checks.due(true, map.isSuccessful(0, 2));
        Checks.due(1, map.pass(5), "0 has strength 5 now");
        Checks.due(1, map.pass(5), "both have strength 5 now");
    }

    static void promise12Refusals() {
        ArgumentMap map = Maps.of(5);
        Checks.refused(IllegalArgumentException.class, () -> map.pass(0));
        Checks.refused(IllegalArgumentException.class, () -> map.pass(91));
        Checks.refused(IllegalArgumentException.class, () -> map.pass(-1));
        Checks.refused(IllegalArgumentException.class, () -> map.pass(Integer.MAX_VALUE));
        Checks.due(0, map.day());
        Checks.due(0, map.ageOf(0));
        Checks.due(0, new ArgumentMap().pass(90));
    }
}
