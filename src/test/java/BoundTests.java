import java.util.NoSuchElementException;

/** What the promises' own sentences name as bounds of answers: the least, the greatest, empty, full, first and last. */
final class BoundTests {
    private static final String CHAIN = "0>1 1>2 2>3 3>4 4>5 5>6 6>7";
    private static final String PAIRS = "0>1 1>0 2>3 3>2 4>5 5>4 6>7 7>6";

    private BoundTests() {
    }

    @Says("Creates a map without arguments, attacks and dialogue, on day 0.")
    static void promise01NothingIsThere() {
        ArgumentMap map = new ArgumentMap();
        Checks.due(0, map.day());
        Checks.due(0, map.argumentCount());
        Checks.due(0, map.attackCount());
        Checks.due(0, map.successfulCount());
        Checks.due(0, map.acceptedCount());
        Checks.due(0, map.undecidedCount());
        Checks.due(0, map.moveCount());
        Checks.due(0, map.dialogueTotal());
        Checks.due(0, map.proponentWins());
        Checks.due(0, map.brokenOffTotal());
        Checks.due(0, map.undoableCount());
        Checks.due(0, map.addArgument(1));
    }

    @Says("Removes an argument and all attacks from it and on it.")
    static void promise03AllItsAttacks() {
        ArgumentMap map = Maps.fullOfAttacks(1, 2, 3, 4, 5, 6);
        Checks.due(4, map.removeArgument(5), "attacks on it alone, all failing");
        Checks.due(7, map.removeArgument(0), "attacks from it and on it");
        Checks.due(9, map.attackCount());
        Checks.due(false, map.hasAttack(4, 1));
        Checks.due(true, map.hasAttack(1, 4));
        Checks.due(5, map.removeArgument(3));
        Checks.due(3, map.removeArgument(1));
        Checks.due(1, map.removeArgument(4));
        Checks.due(0, map.removeArgument(2));
        Checks.due(0, map.attackCount());
        Checks.due(14, Maps.ofEqual(8, "0>1 0>2 0>3 0>4 0>5 0>6 0>7 1>0 2>0 3>0 4>0 5>0 6>0 7>0").removeArgument(0));
    }

    @Says("Returns the number of attacks that are removed.")
    static void promise03NoAttacks() {
        Checks.due(0, Maps.of(5).removeArgument(0));
        Checks.due(0, Maps.ofEqual(3, "0>1").removeArgument(2));
        Checks.due(1, Maps.ofEqual(3, "0>1").removeArgument(1));
        Checks.due(2, Maps.ofEqual(3, "0>1 1>0").removeArgument(1));
    }

    @Says({"Adds an attack.", "Returns the number of attacks afterwards."})
    static void promise04FromTheFirstToTheTwentieth() {
        ArgumentMap map = Maps.ofEqual(5, "");
        int attacks = 0;
        for (int from = 0; from < 5; from++) {
            for (int to = 0; to < 5; to++) {
                if (from != to) {
                    attacks++;
                    Checks.due(attacks, map.addAttack(from, to));
                    Checks.due(true, map.hasAttack(from, to));
                }
            }
        }
        Checks.due(20, map.attackCount());
    }

    @Says({"Removes an attack.", "Returns the number of attacks afterwards."})
    static void promise05FromTheTwentiethToTheLast() {
        ArgumentMap map = Maps.fullOfAttacks();
        int attacks = 20;
        for (int attack = 0; attack < 24; attack++) {
            if (attack / 6 != attack % 6) {
                attacks--;
                Checks.due(attacks, map.removeAttack(attack / 6, attack % 6));
                Checks.due(false, map.hasAttack(attack / 6, attack % 6));
            }
        }
        Checks.due(0, map.attackCount());
    }

    @Says({"Makes the age of an argument 0.", "Returns the age before."})
    static void promise07AgesFromNoughtToNinety() {
        ArgumentMap map = Maps.of(9);
        Checks.due(0, map.renew(0));
        map.pass(1);
        Checks.due(1, map.renew(0));
        map.pass(90);
        map.pass(90);
        Checks.due(90, map.renew(0));
        Checks.due(0, map.ageOf(0));
        Checks.due(9, map.strengthOf(0));
        Checks.due(0, map.renew(0));
    }

    @Says({"Starts a dialogue with an argument.",
        "Returns the number of arguments with which the opponent could move now."})
    static void promise08FromNoAnswerToSeven() {
        Checks.due(0, Maps.of(5).startDialogue(0));
        for (int attackers = 1; attackers <= 7; attackers++) {
            ArgumentMap map = Maps.ofEqual(8, "");
            for (int from = 1; from <= attackers; from++) {
                map.addAttack(from, 0);
            }
            Checks.due(attackers, map.startDialogue(0));
        }
        ArgumentMap failing = Maps.of(5, 4, 5);
        Maps.attack(failing, "1>0 2>0 0>1");
        Checks.due(1, failing.startDialogue(0));
    }

    @Says({"Makes the next move of the dialogue, for the side whose turn it is.",
        "Returns the number of moves afterwards."})
    static void promise09FromTheSecondToTheTwelfthMove() {
        ArgumentMap map = Maps.fullDialogue();
        map.endDialogue();
        map.startDialogue(1);
        for (int moves = 2; moves <= 12; moves++) {
            Checks.due(moves, map.move(moves % 2 == 0 ? 0 : moves / 2 + 1));
            Checks.due(moves, map.moveCount());
        }
    }

    @Says({"Takes the last move of the dialogue back.", "Returns the number of moves afterwards."})
    static void promise10FromTheTwelfthMoveToTheFirst() {
        ArgumentMap map = Maps.fullDialogue();
        for (int moves = 11; moves >= 1; moves--) {
            Checks.due(moves, map.takeBack());
            Checks.due(moves % 2 == 0 ? 0 : moves / 2 + 1, map.moveAt(moves - 1));
        }
        Checks.refused(IllegalStateException.class, map::takeBack);
        Checks.due(2, map.move(0), "what the proponent has taken back can be moved again");
        Checks.due(3, map.move(2));
    }

    @Says({"Ends the dialogue.", "Returns the winner, 'p' for the proponent or 'o' for the opponent."})
    static void promise11OfOneMoveAndOfTwelve() {
        ArgumentMap one = Maps.ofEqual(2, "0>1");
        one.startDialogue(1);
        Checks.due('p', one.endDialogue());
        Checks.due(0, one.moveCount());
        Checks.due('o', Maps.fullDialogue().endDialogue());
        ArgumentMap eleven = Maps.fullDialogue();
        eleven.takeBack();
        Checks.due('p', eleven.endDialogue());
        Checks.due(false, eleven.isDialogueHeld());
    }

    @Says("Lets days pass, one after the other.")
    static void promise12NinetyDaysAreAsMuchAsNinetyTimesOne() {
        ArgumentMap once = Maps.rich();
        ArgumentMap often = Maps.rich();
        once.pass(90);
        for (int day = 0; day < 90; day++) {
            often.pass(1);
        }
        Checks.due(Maps.picture(once), Maps.picture(often));
        Checks.due(90, once.ageOf(0), "93 days old, but 90 is the greatest age");
    }

    @Says("Returns the number of attacks that are successful before or afterwards, but not both.")
    static void promise12NoneAndAllOfTheAttacks() {
        Checks.due(0, new ArgumentMap().pass(90));
        Checks.due(0, Maps.fullOfAttacks().pass(90), "successful before and afterwards");
        ArgumentMap map = Maps.of(1, 1, 1, 1);
        map.pass(90);
        for (int id = 4; id < 8; id++) {
            map.addArgument(9);
        }
        for (int attack = 0; attack < 16; attack++) {
            map.addAttack(attack / 4, 4 + attack % 4);
        }
        Maps.attack(map, "4>0 0>1 1>0 4>5");
        Checks.due(0, map.pass(79), "in vain before and afterwards");
        Checks.due(16, map.pass(1), "in vain before alone");
        Checks.due(0, map.pass(90));
        map.undo();
        map.undo();
        map.undo();
        Checks.due(16, map.pass(90));
    }

    @Says("Returns the number of attacks that are successful before or afterwards, but not both.")
    static void promise12SuccessfulBeforeAlone() {
        ArgumentMap map = Maps.of(5, 5);
        map.pass(9);
        map.renew(1);
        map.addAttack(0, 1);
        map.addAttack(1, 0);
        Checks.due(1, map.pass(1), "0 fades, and its attack fails");
        Checks.due(false, map.isSuccessful(0, 1));
        Checks.due(1, map.pass(9), "1 fades too");
        Checks.due(0, map.pass(10), "between these days the attack failed, but not at their ends");
    }

    @Says("Returns the number of days that have passed.")
    static void promise13FromNoughtOn() {
        ArgumentMap map = new ArgumentMap();
        Checks.due(0, map.day());
        map.pass(1);
        Checks.due(1, map.day());
        map.pass(90);
        Checks.due(91, map.day());
        map.addArgument(5);
        Checks.due(91, map.day());
        map.undo();
        map.undo();
        Checks.due(1, map.day());
    }

    @Says("Returns the number of arguments.")
    static void promise14FromNoneToEight() {
        ArgumentMap map = new ArgumentMap();
        for (int count = 0; count < 8; count++) {
            Checks.due(count, map.argumentCount());
            map.addArgument(1);
        }
        Checks.due(8, map.argumentCount());
        map.removeArgument(7);
        map.removeArgument(0);
        Checks.due(6, map.argumentCount());
    }

    @Says({"Returns the id of an argument by its position in the order of ids.",
        "- `position`: the position, starting at 0"})
    static void promise15FirstAndLastPosition() {
        ArgumentMap map = Maps.of(9, 8, 7, 6, 5, 4, 3, 2);
        for (int position = 0; position < 8; position++) {
            Checks.due(position, map.idAt(position));
        }
        map.removeArgument(0);
        map.removeArgument(4);
        map.addArgument(1);
        Checks.due(1, map.idAt(0));
        Checks.due(5, map.idAt(3));
        Checks.due(8, map.idAt(6));
    }

    @Says("Returns the age in days.")
    static void promise17AgesOneByOne() {
        ArgumentMap map = Maps.of(5);
        for (int age = 0; age <= 95; age++) {
            Checks.due(Math.min(90, age), map.ageOf(0));
            map.pass(1);
        }
    }

    @Says("Returns the number of attacks.")
    static void promise19FromNoneToTwenty() {
        Checks.due(0, new ArgumentMap().attackCount());
        Checks.due(1, Maps.ofEqual(2, "1>0").attackCount());
        Checks.due(20, Maps.fullOfAttacks().attackCount());
    }

    @Says("Returns the number of successful attacks.")
    static void promise22FromNoneToTwenty() {
        Checks.due(0, new ArgumentMap().successfulCount());
        Checks.due(20, Maps.fullOfAttacks().successfulCount());
        Checks.due(12, Maps.fullOfAttacks(1, 1, 1, 1, 2, 2).successfulCount());
        ArgumentMap map = Maps.of(1, 2);
        map.addAttack(0, 1);
        Checks.due(0, map.successfulCount());
        map.pass(10);
        Checks.due(1, map.successfulCount());
    }

    @Says("Returns the number of attackers of an argument.")
    static void promise23FromNoneToSeven() {
        ArgumentMap map = Maps.ofEqual(8, "");
        for (int from = 0; from < 7; from++) {
            Checks.due(from, map.attackerCount(7));
            map.addAttack(from, 7);
        }
        Checks.due(7, map.attackerCount(7));
        map.setWeight(7, 6);
        Checks.due(0, map.attackerCount(7));
    }

    @Says({"Returns an attacker of an argument by its position in the order of ids.",
        "- `position`: the position, starting at 0", "Returns the id of the attacker."})
    static void promise24FirstToSeventhAttacker() {
        ArgumentMap map = Maps.ofEqual(8, "7>3 5>3 6>3 0>3 2>3 1>3 4>3");
        int[] attackers = {0, 1, 2, 4, 5, 6, 7};
        for (int position = 0; position < 7; position++) {
            Checks.due(attackers[position], map.attackerAt(3, position));
        }
        map.setWeight(0, 4);
        map.setWeight(5, 4);
        Checks.due(1, map.attackerAt(3, 0), "the first one whose attack does not fail");
        Checks.due(7, map.attackerAt(3, 4));
        Checks.refused(IndexOutOfBoundsException.class, () -> map.attackerAt(3, 5));
    }

    @Says("Returns the number of accepted arguments.")
    static void promise29FromNoneToEight() {
        Checks.due(0, new ArgumentMap().acceptedCount());
        Checks.due(0, Maps.ofEqual(8, PAIRS).acceptedCount());
        Checks.due(4, Maps.ofEqual(8, CHAIN).acceptedCount());
        Checks.due(8, Maps.ofEqual(8, "").acceptedCount());
    }

    @Says("Returns the number of undecided arguments.")
    static void promise30FromNoneToEight() {
        Checks.due(0, new ArgumentMap().undecidedCount());
        Checks.due(0, Maps.ofEqual(8, "").undecidedCount());
        Checks.due(0, Maps.ofEqual(8, CHAIN).undecidedCount(), "rejected ones are decided");
        Checks.due(8, Maps.ofEqual(8, PAIRS).undecidedCount());
    }

    @Says("Returns the number of stable sets, by looking at all sets of arguments.")
    static void promise31TheEmptySetAndAllArguments() {
        Checks.due(1, new ArgumentMap().stableCount(), "the empty set");
        Checks.due(1, Maps.ofEqual(8, "").stableCount(), "all arguments");
        Checks.due(0, Maps.ofEqual(8, "5>6 6>7 7>5").stableCount());
        Checks.due(16, Maps.ofEqual(8, PAIRS).stableCount());
    }

    @Says("Returns the same number as stableCount, by deciding for one argument after the other whether it is in the "
            + "set, and giving up as soon as the set cannot be stable.")
    static void promise32TheEmptySetAndAllArguments() {
        Checks.due(1, new ArgumentMap().stableCountByLabels(), "the empty set");
        Checks.due(1, Maps.ofEqual(8, "").stableCountByLabels(), "all arguments");
        Checks.due(0, Maps.ofEqual(8, "5>6 6>7 7>5").stableCountByLabels());
        Checks.due(16, Maps.ofEqual(8, PAIRS).stableCountByLabels());
        Checks.due(1, Maps.ofEqual(8, CHAIN).stableCountByLabels());
        Checks.due(2, Maps.ofEqual(8, CHAIN + " 7>0").stableCountByLabels());
    }

    @Says("Returns the number, at least 1.")
    static void promise33AtLeastTheEmptySet() {
        Checks.due(1, new ArgumentMap().preferredCount());
        Checks.due(1, Maps.ofEqual(3, "0>1 1>2 2>0").preferredCount());
        Checks.due(1, Maps.ofEqual(7, "0>1 1>2 2>3 3>4 4>5 5>6 6>0").preferredCount());
        Checks.due(16, Maps.ofEqual(8, PAIRS).preferredCount());
        Graphs.visit(3, (map, attacks) -> Checks.due(true, map.preferredCount() >= 1));
    }

    @Says("Returns the greatest number of arguments in an admissible set.")
    static void promise34FromNoneToEight() {
        Checks.due(0, new ArgumentMap().greatestAdmissible());
        Checks.due(0, Maps.ofEqual(7, "0>1 1>2 2>3 3>4 4>5 5>6 6>0").greatestAdmissible());
        Checks.due(4, Maps.ofEqual(8, PAIRS).greatestAdmissible());
        Checks.due(8, Maps.ofEqual(8, "").greatestAdmissible());
    }

    @Says("Returns whether an argument is in at least one preferred set.")
    static void promise35InOneOfManyOrInNone() {
        for (int id = 0; id < 8; id++) {
            Checks.due(true, Maps.ofEqual(8, PAIRS).isCredible(id));
            Checks.due(false, Maps.ofEqual(8, "0>1 1>2 2>3 3>4 4>5 5>6 6>0 6>7").isCredible(id));
            Checks.due(true, Maps.ofEqual(8, "").isCredible(id));
        }
        Graphs.visit(3, (map, attacks) -> {
            for (int id = 0; id < 3; id++) {
                Checks.due(preferredWith(attacks, 1 << id) > 0, map.isCredible(id));
            }
        });
    }

    @Says("Returns whether an argument is in all preferred sets.")
    static void promise36InAllOrAllButOne() {
        for (int id = 0; id < 8; id++) {
            Checks.due(false, Maps.ofEqual(8, PAIRS).isCertain(id));
            Checks.due(false, Maps.ofEqual(8, "0>1 1>2 2>3 3>4 4>5 5>6 6>0 6>7").isCertain(id), "the empty set alone");
            Checks.due(true, Maps.ofEqual(8, "").isCertain(id));
        }
        Checks.due(false, Maps.ofEqual(6, "0>1 1>0 2>3 3>2 1>4 3>5 5>4").isCertain(4));
        Graphs.visit(3, (map, attacks) -> {
            for (int id = 0; id < 3; id++) {
                Checks.due(preferredWith(attacks, 1 << id) == preferredWith(attacks, 0), map.isCertain(id));
            }
        });
    }

    private static int preferredWith(int[] attacks, int members) {
        int sets = 0;
        for (int set = 0; set < 1 << attacks.length; set++) {
            sets += (set & members) == members && Graphs.isPreferred(attacks, set) ? 1 : 0;
        }
        return sets;
    }

    @Says({"Returns whether two arguments are in a common preferred set.",
        "- `other`: the id of an argument, which may be the same"})
    static void promise37TheSameArgument() {
        Graphs.visit(3, (map, attacks) -> {
            for (int pair = 0; pair < 9; pair++) {
                boolean want = preferredWith(attacks, 1 << pair / 3 | 1 << pair % 3) > 0;
                Checks.due(want, map.canStandTogether(pair / 3, pair % 3));
            }
        });
        Checks.due(true, Maps.ofEqual(2, "0>1 1>0").canStandTogether(1, 1));
        Checks.due(false, Maps.ofEqual(2, "0>1 1>0").canStandTogether(1, 0));
        Checks.due(false, Maps.ofEqual(2, "0>1").canStandTogether(1, 1));
    }

    @Says("Returns whether successful attacks lead from some argument back to itself, by taking away arguments without "
            + "attackers again and again.")
    static void promise38ShortestAndLongestCycles() {
        for (int count = 1; count <= 4; count++) {
            Graphs.visit(count, (map, attacks) -> Checks.due(cycles(attacks), map.hasCycle()));
        }
        Checks.due(false, new ArgumentMap().hasCycle());
        Checks.due(true, Maps.ofEqual(8, CHAIN + " 7>0").hasCycle());
        Checks.due(false, Maps.ofEqual(8, CHAIN + " 0>7 0>6 0>5 1>7 2>7").hasCycle());
        Checks.due(true, Maps.ofEqual(8, CHAIN + " 1>0").hasCycle());
    }

    @Says("Returns the same as hasCycle, by following attacks in depth.")
    static void promise39ShortestAndLongestCycles() {
        for (int count = 1; count <= 4; count++) {
            Graphs.visit(count, (map, attacks) -> Checks.due(cycles(attacks), map.hasCycleBySearch()));
        }
        Checks.due(false, new ArgumentMap().hasCycleBySearch());
        Checks.due(true, Maps.ofEqual(8, CHAIN + " 7>0").hasCycleBySearch());
        Checks.due(false, Maps.ofEqual(8, CHAIN + " 0>7 0>6 0>5 1>7 2>7").hasCycleBySearch());
        Checks.due(true, Maps.ofEqual(8, CHAIN + " 1>0").hasCycleBySearch());
    }

    private static boolean cycles(int[] attacks) {
        for (int id = 0; id < attacks.length; id++) {
            if (Graphs.leads(attacks, id, id, attacks.length)) {
                return true;
            }
        }
        return false;
    }

    private static final String CHANGE = "Returns the smallest number of days, up to 90, after which some argument has "
            + "another label than now, if only days pass, on a copy.";

    /** An argument of weight 9 fades for the last time on its 80th day, so that no greater number can be the answer. */
    @Says({CHANGE, "Returns the number of days."})
    static void promise40FromOneDayToEighty() {
        for (int passed = 0; passed < 80; passed++) {
            ArgumentMap map = Maps.of(9, 1);
            map.addAttack(1, 0);
            Maps.run(map, passed == 0 ? "renew 0" : "days " + passed);
            Checks.due(80 - passed, map.daysUntilChange());
        }
    }

    @Says(CHANGE)
    static void promise40SmallestOfSeveralNumbers() {
        ArgumentMap map = Maps.of(3, 2, 2, 1);
        Maps.attack(map, "1>0 3>2");
        Checks.due(10, map.daysUntilChange(), "2 fades on the 10th day, 0 on the 10th and the 20th");
        map.setWeight(2, 5);
        Checks.due(20, map.daysUntilChange());
        map.pass(19);
        Checks.due(1, map.daysUntilChange());
        map.pass(1);
        Checks.due(20, map.daysUntilChange());
    }

    @Says(CHANGE)
    static void promise40NothingPasses() {
        Twins.answered(Checks.outcome(() -> Maps.rich().daysUntilChange()), Maps::rich, map -> map.daysUntilChange());
        ArgumentMap map = Maps.of(9, 1);
        map.addAttack(1, 0);
        for (int asked = 0; asked < 3; asked++) {
            Checks.due(80, map.daysUntilChange());
        }
        Checks.due("day 0; 0 w9 a0; 1 w1 a0 -0; moves; totals 0 0 0", Maps.picture(map));
    }

    @Says({"- `days`: the number of days, 0 to 90", "Returns the label, as in status."})
    static void promise41EachNumberOfDays() {
        ArgumentMap map = Maps.of(9, 4, 5);
        Maps.attack(map, "1>0 0>1 2>1");
        ArgumentMap passing = Maps.of(9, 4, 5);
        Maps.attack(passing, "1>0 0>1 2>1");
        for (int days = 0; days <= 90; days++) {
            for (int id = 0; id < 3; id++) {
                Checks.due(passing.status(id), map.statusAfter(id, days), id + " after " + days + " days");
            }
            passing.pass(1);
        }
    }

    @Says("Returns the label that an argument would have after a number of days, if only days passed.")
    static void promise41NothingPasses() {
        Twins.answered('r', Maps::rich, map -> map.statusAfter(1, 0));
        Twins.answered('u', Maps::rich, map -> map.statusAfter(1, 90));
        ArgumentMap map = Maps.of(9, 1);
        map.addAttack(1, 0);
        Checks.due('a', map.statusAfter(0, 79));
        Checks.due('r', map.statusAfter(0, 80));
        Checks.due('r', map.statusAfter(0, 90));
        Checks.due('a', map.statusAfter(0, 0));
        Checks.due('a', map.status(0));
        map.pass(90);
        Checks.due('r', map.statusAfter(0, 90));
        Checks.due('r', map.statusAfter(0, 0));
    }

    @Says({"Returns an argument by its rank in the order of strengths: greater strength first, then fewer attackers, "
            + "then lower id.", "- `rank`: the rank, starting at 0"})
    static void promise42FirstAndLastRank() {
        dueOrder(Maps.of(9, 8, 7, 6, 5, 4, 3, 2), 0, 1, 2, 3, 4, 5, 6, 7);
        dueOrder(Maps.of(2, 3, 4, 5, 6, 7, 8, 9), 7, 6, 5, 4, 3, 2, 1, 0);
        dueOrder(Maps.ofEqual(8, ""), 0, 1, 2, 3, 4, 5, 6, 7);
        dueOrder(Maps.ofEqual(4, "1>0 2>0 3>0 2>1 3>1 3>2"), 3, 2, 1, 0);
        dueOrder(Maps.ofEqual(4, "1>0 0>1"), 2, 3, 0, 1);
        ArgumentMap map = Maps.of(5, 5, 4);
        Maps.attack(map, "2>0 1>2");
        dueOrder(map, 0, 1, 2);
        map.pass(90);
        dueOrder(map, 1, 0, 2);
    }

    private static void dueOrder(ArgumentMap map, int... ids) {
        for (int rank = 0; rank < ids.length; rank++) {
            Checks.due(ids[rank], map.argumentByStrength(rank), "rank " + rank);
        }
        Checks.refused(NoSuchElementException.class, () -> map.argumentByStrength(ids.length));
    }

    @Says({"Returns the number of moves of the dialogue.", "Returns the number, 0 if no dialogue is held."})
    static void promise44FromNoneToTwelve() {
        Checks.due(0, new ArgumentMap().moveCount());
        ArgumentMap map = Maps.fullDialogue();
        Checks.due(12, map.moveCount());
        map.endDialogue();
        Checks.due(0, map.moveCount(), "ended");
        map.startDialogue(0);
        Checks.due(1, map.moveCount());
        map.removeArgument(0);
        Checks.due(0, map.moveCount(), "broken off");
    }

    @Says({"Returns a move of the dialogue.", "- `position`: the position, starting at 0",
        "Returns the id of the argument."})
    static void promise45FirstToTwelfthMove() {
        ArgumentMap map = Maps.fullDialogue();
        for (int position = 0; position < 12; position++) {
            Checks.due(position % 2 == 1 ? 0 : position / 2 + 1, map.moveAt(position));
        }
    }

    @Says({"Returns whether move would return normally now.", "Returns true if it would."})
    static void promise46AsMoveWouldAtEachLength() {
        for (int takenBack = 0; takenBack < 12; takenBack++) {
            for (int id = 0; id < 8; id++) {
                ArgumentMap map = Maps.fullDialogue();
                for (int back = 0; back < takenBack; back++) {
                    map.takeBack();
                }
                int move = id;
                boolean can = map.canMove(move);
                Checks.due(can, Checks.outcome(() -> map.move(move)) instanceof Integer, takenBack + " back, " + id);
                Checks.due(takenBack == 0 ? 12 : 12 - takenBack + (can ? 1 : 0), map.moveCount());
            }
        }
        Checks.due(false, Maps.fullDialogue().canMove(7));
    }

    @Says("Returns the number of dialogues that have been ended so far.")
    static void promise47FromNoneOn() {
        ArgumentMap map = Maps.ofEqual(2, "1>0");
        Checks.due(0, map.dialogueTotal());
        map.startDialogue(0);
        Checks.due(0, map.dialogueTotal(), "held");
        map.endDialogue();
        Checks.due(1, map.dialogueTotal(), "won by the proponent");
        map.startDialogue(0);
        map.move(1);
        map.endDialogue();
        Checks.due(2, map.dialogueTotal(), "won by the opponent");
        map.undo();
        Checks.due(1, map.dialogueTotal(), "undone");
        map.removeArgument(1);
        Checks.due(1, map.dialogueTotal(), "broken off");
    }

    @Says("Returns the number of dialogues that the proponent has won so far.")
    static void promise48FromNoneOn() {
        ArgumentMap map = Maps.ofEqual(2, "1>0");
        Checks.due(0, map.proponentWins());
        map.startDialogue(0);
        map.move(1);
        map.endDialogue();
        Checks.due(0, map.proponentWins(), "won by the opponent");
        map.startDialogue(0);
        map.removeArgument(0);
        Checks.due(0, map.proponentWins(), "broken off");
        map.startDialogue(1);
        map.endDialogue();
        Checks.due(1, map.proponentWins());
        map.undo();
        Checks.due(0, map.proponentWins(), "undone");
    }

    @Says("Returns the number of dialogues that have been broken off so far.")
    static void promise49FromNoneOn() {
        ArgumentMap map = Maps.ofEqual(3, "1>0");
        Checks.due(0, map.brokenOffTotal());
        map.startDialogue(0);
        map.endDialogue();
        Checks.due(0, map.brokenOffTotal(), "ended");
        map.startDialogue(0);
        map.removeArgument(0);
        Checks.due(1, map.brokenOffTotal());
        map.startDialogue(1);
        map.removeArgument(1);
        Checks.due(2, map.brokenOffTotal());
        map.undo();
        Checks.due(1, map.brokenOffTotal(), "undone");
    }

    @Says({"Returns the mean strength of the arguments: the sum, converted to double, divided by their number.",
        "Returns the mean."})
    static void promise50LeastAndGreatestMean() {
        Checks.due(9.0, Maps.of(9, 9, 9, 9, 9, 9, 9, 9).meanStrength());
        ArgumentMap old = Maps.of(9, 8, 7);
        old.pass(90);
        Checks.due(1.0, old.meanStrength());
        Checks.due(1.5, Maps.of(1, 2).meanStrength());
        Checks.due(4.0 / 3.0, Maps.of(1, 1, 2).meanStrength());
        Checks.due(13.0 / 7.0, Maps.of(1, 1, 2, 3, 4, 1, 1).meanStrength());
    }

    @Says({"Returns the number of accepted arguments, converted to float, divided by the number of arguments.",
        "Returns the share."})
    static void promise51LeastAndGreatestShare() {
        Checks.due(0f, Maps.ofEqual(8, PAIRS).acceptedShare());
        Checks.due(1f, Maps.ofEqual(8, "").acceptedShare());
        Checks.due(1f / 3f, Maps.ofEqual(3, "0>1 0>2").acceptedShare());
        Checks.due(6f / 7f, Maps.ofEqual(7, "0>1").acceptedShare());
    }

    @Says({"Checks the map: for all arguments, status is 'a' exactly if isAcceptedByGame is true; stableCount and "
            + "stableCountByLabels agree, and hasCycle and hasCycleBySearch agree.",
        "Returns true if all these checks succeed."})
    static void promise52AllSmallMaps() {
        for (int count = 1; count <= 4; count++) {
            Graphs.visit(count, (map, attacks) -> Checks.due(true, map.isConsistent()));
        }
        Checks.due(true, new ArgumentMap().isConsistent());
        Checks.due(true, Maps.fullOfAttacks().isConsistent());
        Twins.answered(true, Maps::rich, map -> map.isConsistent());
    }

    @Says({"Formats an argument into the line, replacing the previous line: its id, \"(\", its strength, \"/\", its "
            + "weight, \")\", its label and, for each attacker in the order of ids, \"<\" and the id of the attacker.",
        "Returns the length of the line."})
    static void promise53FromNoAttackerToSeven() {
        ArgumentMap map = Maps.ofEqual(8, "7>3 5>3 6>3 0>3 2>3 1>3 4>3");
        Checks.due(21, map.formatArgument(3));
        Checks.due("3(5/5)r<0<1<2<4<5<6<7", Maps.line(map));
        Checks.due(7, map.formatArgument(0));
        Checks.due("0(5/5)a", Maps.line(map), "a shorter line replaces a longer one");
        map.pass(90);
        Checks.due(7, map.formatArgument(0));
        Checks.due("0(1/5)a", Maps.line(map));
        map.addAttack(3, 0);
        map.removeArgument(7);
        Maps.run(map, "remove 1;remove 2;remove 4;remove 5;remove 6");
        Checks.due(9, map.formatArgument(0));
        Checks.due("0(1/5)u<3", Maps.line(map));
    }

    @Says("An example is \"3(4/5)r<0<7\".")
    static void promise53Example() {
        ArgumentMap map = Maps.of(5, 1, 1, 5, 1, 1, 1, 5);
        map.pass(10);
        Maps.attack(map, "7>3 0>3 1>3 3>1");
        Checks.due(11, map.formatArgument(3));
        Checks.due("3(4/5)r<0<7", Maps.line(map));
    }

    @Says({"Formats the dialogue into the line, replacing the previous line: for each move \"p\" or \"o\" for its side "
            + "and the id, with a blank between two moves.", "Returns the length of the line."})
    static void promise54FromOneMoveToTwelve() {
        ArgumentMap map = Maps.fullDialogue();
        Checks.due(35, map.formatDialogue());
        Checks.due("p1 o0 p2 o0 p3 o0 p4 o0 p5 o0 p6 o0", Maps.line(map));
        map.endDialogue();
        map.startDialogue(6);
        Checks.due(2, map.formatDialogue());
        Checks.due("p6", Maps.line(map), "a shorter line replaces a longer one");
        map.endDialogue();
        map.removeArgument(1);
        map.removeArgument(2);
        map.addArgument(5);
        map.removeArgument(8);
        map.addArgument(5);
        map.removeArgument(9);
        map.addArgument(5);
        map.startDialogue(10);
        Checks.due(3, map.formatDialogue());
        Checks.due("p10", Maps.line(map));
    }

    @Says("An example is \"p3 o0 p2\".")
    static void promise54Example() {
        ArgumentMap map = Maps.ofEqual(4, "0>3 2>0");
        map.startDialogue(3);
        map.move(0);
        map.move(2);
        Checks.due(8, map.formatDialogue());
        Checks.due("p3 o0 p2", Maps.line(map));
    }

    @Says({"Returns a character of the line, which is empty at first.", "- `index`: the index, starting at 0",
        "Returns the character."})
    static void promise55FirstAndLastCharacter() {
        ArgumentMap map = Maps.of(5);
        Checks.due("", Maps.line(map));
        map.formatArgument(0);
        Checks.due('0', map.lineChar(0));
        Checks.due('(', map.lineChar(1));
        Checks.due('a', map.lineChar(6));
        Checks.refused(IndexOutOfBoundsException.class, () -> map.lineChar(7));
    }

    @Says({"Appends a character to the input buffer.", "Returns the number of characters in the buffer."})
    static void promise56FromTheFirstToTheSixtieth() {
        ArgumentMap map = new ArgumentMap();
        for (int length = 1; length <= 60; length++) {
            Checks.due(length, map.append((char) (' ' + length)));
        }
        Checks.refused(IllegalStateException.class, () -> map.append('a'));
        Checks.refused(IllegalArgumentException.class, map::run);
        Checks.due(1, map.append('a'));
    }

    @Says({"Parses the contents of the input buffer as a program and executes it.",
        "Returns the number of commands."})
    static void promise57FromOneCommandToTwelve() {
        for (int commands = 1; commands <= 12; commands++) {
            ArgumentMap map = Maps.fullDialogue();
            Checks.due(commands, Maps.run(map, "back;".repeat(commands - 1) + "end"));
            Checks.due((commands + 1) % 2, map.proponentWins());
            Checks.due(false, map.isDialogueHeld());
        }
        Checks.due(1, Maps.run(new ArgumentMap(), "days 90"));
    }

    @Says("Either all commands are executed or none.")
    static void promise57TheLastCommandFails() {
        ArgumentMap map = Maps.rich();
        String before = Maps.picture(map);
        Maps.type(map, "0;days 9;end;remove 1;add 3;weigh 0 9;attack 4>0;back");
        Checks.refused(IllegalStateException.class, map::run);
        Checks.due(7, map.failedCommand());
        Checks.due(before, Maps.picture(map));
        Checks.due(8, map.undoableCount());
        Checks.due(7, Maps.run(map, "days 9;end;remove 1;add 3;weigh 0 9;attack 4>0;renew 4"));
        Checks.due("day 12; 0 w9 a12 >2; 2 w7 a12; 4 w3 a0 -0; moves; totals 1 0 0", Maps.picture(map));
    }

    @Says("The buffer is empty afterwards, even if an exception is thrown.")
    static void promise57TheBufferIsEmptyAfterwards() {
        ArgumentMap map = Maps.of(5);
        Maps.run(map, "renew 0");
        Checks.due(1, map.append('a'), "after a program that was executed");
        Checks.refused(IllegalArgumentException.class, map::run);
        Checks.due(1, map.append('e'), "after a malformed program");
        Maps.type(map, "nd");
        Checks.refused(IllegalStateException.class, map::run);
        Checks.due(1, map.append('e'), "after a command that failed");
        Checks.refused(IllegalArgumentException.class, map::run);
        Checks.refused(IllegalArgumentException.class, map::run);
        Checks.due(0, map.errorPosition(), "the empty program");
    }

    @Says({"Returns the stored error position.", "Returns the error position of the latest malformed program."})
    static void promise58FromNoughtToSixty() {
        ArgumentMap map = new ArgumentMap();
        for (int length = 0; length <= 60; length += 4) {
            Maps.type(map, "end;".repeat(length / 4));
            Checks.refused(IllegalArgumentException.class, map::run);
            Checks.due(length, map.errorPosition());
        }
        Maps.type(map, "x");
        Checks.refused(IllegalArgumentException.class, map::run);
        Checks.due(0, map.errorPosition(), "the latest one");
        Maps.run(map, "add 1");
        Checks.due(0, map.errorPosition(), "well-formed programs leave it");
    }

    @Says({"Returns the stored index of a failed command.", "Returns the index of the latest command that failed."})
    static void promise59FromTheFirstToTheLast() {
        ArgumentMap map = new ArgumentMap();
        for (int index = 9; index >= 0; index--) {
            Maps.type(map, "days 1;".repeat(Math.min(8, index)) + (index == 9 ? "add " : "back"));
            Checks.outcome(map::run);
            Checks.due(index == 9 ? (Object) NoSuchElementException.class : index, Checks.outcome(map::failedCommand));
        }
        Maps.type(map, "add");
        Checks.refused(IllegalArgumentException.class, map::run);
        Maps.run(map, "days 1");
        Checks.due(0, map.failedCommand(), "other programs leave it");
        Maps.type(map, "days 1;back;back");
        Checks.refused(IllegalStateException.class, map::run);
        Checks.due(1, map.failedCommand(), "the latest one");
        Checks.due(1, map.day());
    }

    @Says({"Returns the number of changes that can be undone.", "Returns the number, 0 to 8."})
    static void promise60FromNoughtToEight() {
        ArgumentMap map = new ArgumentMap();
        Checks.due(0, map.undoableCount());
        for (int changes = 1; changes <= 20; changes++) {
            map.pass(1);
            Checks.due(Math.min(8, changes), map.undoableCount());
        }
        for (int left = 7; left >= 0; left--) {
            map.undo();
            Checks.due(left, map.undoableCount());
        }
        Checks.refused(IllegalStateException.class, map::undo);
        Checks.due(0, map.undoableCount());
    }

    @Says({"Undoes the latest change that has not been undone.",
        "Returns the number of changes that can still be undone."})
    static void promise61FromSevenToNought() {
        ArgumentMap map = new ArgumentMap();
        for (int change = 1; change <= 9; change++) {
            map.pass(change);
        }
        int day = 45;
        for (int left = 7; left >= 0; left--) {
            Checks.due(left, map.undo());
            day -= left + 2;
            Checks.due(day, map.day());
        }
        Checks.refused(IllegalStateException.class, map::undo);
        Checks.due(1, map.day());
    }

    @Says({"Saves a copy of everything that changes can change, replacing an earlier copy.",
        "Returns the number of arguments."})
    static void promise62FromNoneToEight() {
        ArgumentMap map = new ArgumentMap();
        for (int count = 0; count <= 8; count++) {
            Checks.due(count, map.save());
            Checks.due(count, map.restore());
            if (count < 8) {
                Checks.due(count, map.addArgument(5));
            }
        }
        Checks.due(8, map.restore(), "the latest copy");
    }

    @Says("Saves a copy of everything that changes can change, replacing an earlier copy.")
    static void promise62AllThatChangesCanChange() {
        ArgumentMap map = Maps.quiet();
        map.startDialogue(2);
        map.removeArgument(2);
        map.startDialogue(0);
        map.move(1);
        String before = Maps.picture(map);
        Checks.due(2, map.save(), "replaces a copy of four arguments");
        map.takeBack();
        map.endDialogue();
        map.startDialogue(1);
        map.removeArgument(1);
        map.addArgument(9);
        map.addAttack(0, 4);
        map.pass(50);
        map.setWeight(0, 2);
        map.renew(0);
        Checks.due(2, map.restore());
        Checks.due(before, Maps.picture(map));
        Checks.due(4, map.addArgument(1), "the next free id");
    }

    @Says("Restores the saved copy, which stays available.")
    static void promise63AgainAndAgain() {
        ArgumentMap map = Maps.rich();
        Checks.due(3, map.save());
        String before = Maps.picture(map);
        for (int times = 0; times < 10; times++) {
            map.removeArgument(0);
            map.pass(90);
            map.addArgument(9);
            map.addAttack(4, 1);
            map.startDialogue(1);
            Checks.due(3, map.restore());
            Checks.due(before, Maps.picture(map));
        }
        Checks.due(3, map.restore(), "twice in turn");
        Checks.due(4, map.addArgument(5));
    }

    @Says("No changes can be undone afterwards.")
    static void promise63NothingToUndo() {
        ArgumentMap map = Maps.rich();
        Checks.due(8, map.undoableCount());
        map.restore();
        Checks.due(0, map.undoableCount());
        Checks.refused(IllegalStateException.class, map::undo);
        map.pass(1);
        Checks.due(0, map.undo());
        Checks.refused(IllegalStateException.class, map::undo);
        Checks.due(4, map.argumentCount());
    }
}
