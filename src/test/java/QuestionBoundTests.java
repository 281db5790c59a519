import java.util.NoSuchElementException;

/** What promises 13 to 52 name as bounds of answers: the least, the greatest, empty, full, first and last. */
final class QuestionBoundTests {
    private static final String CHAIN = "0>1 1>2 2>3 3>4 4>5 5>6 6>7";
    private static final String PAIRS = "0>1 1>0 2>3 3>2 4>5 5>4 6>7 7>6";

    private QuestionBoundTests() {
    }

    @Says("Returns the number of days that have passed.")
    static void promise13FromNoughtOn() {
        ArgumentMap map = new ArgumentMap();
        Checks.due(0, map.day());
        map.pass(1);
        Checks.due(1, map.day());
        map.pass(90);
        Checks.due(91, map.day());
        map.addArgument(5);
        Checks.due(91, map.day());
        map.undo();
        map.undo();
        Checks.due(1, map.day());
    }

    @Says("Returns the number of arguments.")
    static void promise14FromNoneToEight() {
        ArgumentMap map = new ArgumentMap();
        for (int count = 0; count < 8; count++) {
            Checks.due(count, map.argumentCount());
            map.addArgument(1);
        }
        Checks.due(8, map.argumentCount());
        map.removeArgument(7);
        map.removeArgument(0);
        Checks.due(6, map.argumentCount());
    }

    @Says({"Returns the id of an argument by its position in the order of ids.",
        "- `position`: the position, starting at 0"})
    static void promise15FirstAndLastPosition() {
        ArgumentMap map = Maps.of(9, 8, 7, 6, 5, 4, 3, 2);
        for (int position = 0; position < 8; position++) {
            Checks.due(position, map.idAt(position));
        }
        map.removeArgument(0);
        map.removeArgument(4);
        map.addArgument(1);
        Checks.due(1, map.idAt(0));
        Checks.due(5, map.idAt(3));
        Checks.due(8, map.idAt(6));
    }

    @Says("Returns the age in days.")
    static void promise17AgesOneByOne() {
        ArgumentMap map = Maps.of(5);
        for (int age = 0; age <= 95; age++) {
            Checks.due(Math.min(90, age), map.ageOf(0));
            map.pass(1);
        }
    }

    @Says("Returns the number of attacks.")
    static void promise19FromNoneToTwenty() {
        Checks.due(0, new ArgumentMap().attackCount());
        Checks.due(1, Maps.ofEqual(2, "1>0").attackCount());
        Checks.due(20, Maps.fullOfAttacks().attackCount());
    }

    @Says("Returns the number of successful attacks.")
    static void promise22FromNoneToTwenty() {
        Checks.due(0, new ArgumentMap().successfulCount());
        Checks.due(20, Maps.fullOfAttacks().successfulCount());
        Checks.due(12, Maps.fullOfAttacks(1, 1, 1, 1, 2, 2).successfulCount());
        ArgumentMap map = Maps.of(1, 2);
        map.addAttack(0, 1);
        Checks.due(0, map.successfulCount());
        map.pass(10);
        Checks.due(1, map.successfulCount());
    }

    @Says("Returns the number of attackers of an argument.")
    static void promise23FromNoneToSeven() {
        ArgumentMap map = Maps.ofEqual(8, "");
        for (int from = 0; from < 7; from++) {
            Checks.due(from, map.attackerCount(7));
            map.addAttack(from, 7);
        }
        Checks.due(7, map.attackerCount(7));
        map.setWeight(7, 6);
        Checks.due(0, map.attackerCount(7));
    }

    @Says({"Returns an attacker of an argument by its position in the order of ids.",
        "- `position`: the position, starting at 0", "Returns the id of the attacker."})
    static void promise24FirstToSeventhAttacker() {
        ArgumentMap map = Maps.ofEqual(8, "7>3 5>3 6>3 0>3 2>3 1>3 4>3");
        int[] attackers = {0, 1, 2, 4, 5, 6, 7};
        for (int position = 0; position < 7; position++) {
            Checks.due(attackers[position], map.attackerAt(3, position));
        }
        map.setWeight(0, 4);
        map.setWeight(5, 4);
        Checks.due(1, map.attackerAt(3, 0), "the first one whose attack does not fail");
        Checks.due(7, map.attackerAt(3, 4));
        Checks.refused(IndexOutOfBoundsException.class, () -> map.attackerAt(3, 5));
    }

    @Says("Returns the number of accepted arguments.")
    static void promise29FromNoneToEight() {
        Checks.due(0, new ArgumentMap().acceptedCount());
        Checks.due(0, Maps.ofEqual(8, PAIRS).acceptedCount());
        Checks.due(4, Maps.ofEqual(8, CHAIN).acceptedCount());
        Checks.due(8, Maps.ofEqual(8, "").acceptedCount());
    }

    @Says("Returns the number of undecided arguments.")
    static void promise30FromNoneToEight() {
        Checks.due(0, new ArgumentMap().undecidedCount());
        Checks.due(0, Maps.ofEqual(8, "").undecidedCount());
        Checks.due(0, Maps.ofEqual(8, CHAIN).undecidedCount(), "rejected ones are decided");
        Checks.due(8, Maps.ofEqual(8, PAIRS).undecidedCount());
    }

    @Says("Returns the number of stable sets, by looking at all sets of arguments.")
    static void promise31TheEmptySetAndAllArguments() {
        Checks.due(1, new ArgumentMap().stableCount(), "the empty set");
        Checks.due(1, Maps.ofEqual(8, "").stableCount(), "all arguments");
        Checks.due(0, Maps.ofEqual(8, "5>6 6>7 7>5").stableCount());
        Checks.due(16, Maps.ofEqual(8, PAIRS).stableCount());
    }

    @Says("Returns the same number as stableCount, by deciding for one argument after the other whether it is in the "
            + "set, and giving up as soon as the set cannot be stable.")
    static void promise32TheEmptySetAndAllArguments() {
        Checks.due(1, new ArgumentMap().stableCountByLabels(), "the empty set");
        Checks.due(1, Maps.ofEqual(8, "").stableCountByLabels(), "all arguments");
        Checks.due(0, Maps.ofEqual(8, "5>6 6>7 7>5").stableCountByLabels());
        Checks.due(16, Maps.ofEqual(8, PAIRS).stableCountByLabels());
        Checks.due(1, Maps.ofEqual(8, CHAIN).stableCountByLabels());
        Checks.due(2, Maps.ofEqual(8, CHAIN + " 7>0").stableCountByLabels());
    }

    @Says("Returns the number, at least 1.")
    static void promise33AtLeastTheEmptySet() {
        Checks.due(1, new ArgumentMap().preferredCount());
        Checks.due(1, Maps.ofEqual(3, "0>1 1>2 2>0").preferredCount());
        Checks.due(1, Maps.ofEqual(7, "0>1 1>2 2>3 3>4 4>5 5>6 6>0").preferredCount());
        Checks.due(16, Maps.ofEqual(8, PAIRS).preferredCount());
        Graphs.visit(3, (map, attacks) -> Checks.due(true, map.preferredCount() >= 1));
    }

    @Says("Returns the greatest number of arguments in an admissible set.")
    static void promise34FromNoneToEight() {
        Checks.due(0, new ArgumentMap().greatestAdmissible());
        Checks.due(0, Maps.ofEqual(7, "0>1 1>2 2>3 3>4 4>5 5>6 6>0").greatestAdmissible());
        Checks.due(4, Maps.ofEqual(8, PAIRS).greatestAdmissible());
        Checks.due(8, Maps.ofEqual(8, "").greatestAdmissible());
    }

    @Says("Returns whether an argument is in at least one preferred set.")
    static void promise35InOneOfManyOrInNone() {
        for (int id = 0; id < 8; id++) {
            Checks.due(true, Maps.ofEqual(8, PAIRS).isCredible(id));
            Checks.due(false, Maps.ofEqual(8, "0>1 1>2 2>3 3>4 4>5 5>6 6>0 6>7").isCredible(id));
            Checks.due(true, Maps.ofEqual(8, "").isCredible(id));
        }
        Graphs.visit(3, (map, attacks) -> {
            for (int id = 0; id < 3; id++) {
                Checks.due(preferredWith(attacks, 1 << id) > 0, map.isCredible(id));
            }
        });
    }

    @Says("Returns whether an argument is in all preferred sets.")
    static void promise36InAllOrAllButOne() {
        for (int id = 0; id < 8; id++) {
            Checks.due(false, Maps.ofEqual(8, PAIRS).isCertain(id));
            Checks.due(false, Maps.ofEqual(8, "0>1 1>2 2>3 3>4 4>5 5>6 6>0 6>7").isCertain(id), "the empty set alone");
            Checks.due(true, Maps.ofEqual(8, "").isCertain(id));
        }
        Checks.due(false, Maps.ofEqual(6, "0>1 1>0 2>3 3>2 1>4 3>5 5>4").isCertain(4));
        Graphs.visit(3, (map, attacks) -> {
            for (int id = 0; id < 3; id++) {
                Checks.due(preferredWith(attacks, 1 << id) == preferredWith(attacks, 0), map.isCertain(id));
            }
        });
    }

    private static int preferredWith(int[] attacks, int members) {
        int sets = 0;
        for (int set = 0; set < 1 << attacks.length; set++) {
            sets += (set & members) == members && Graphs.isPreferred(attacks, set) ? 1 : 0;
        }
        return sets;
    }

    @Says({"Returns whether two arguments are in a common preferred set.",
        "- `other`: the id of an argument, which may be the same"})
    static void promise37TheSameArgument() {
        Graphs.visit(3, (map, attacks) -> {
            for (int pair = 0; pair < 9; pair++) {
                boolean want = preferredWith(attacks, 1 << pair / 3 | 1 << pair % 3) > 0;
                Checks.due(want, map.canStandTogether(pair / 3, pair % 3));
            }
        });
        Checks.due(true, Maps.ofEqual(2, "0>1 1>0").canStandTogether(1, 1));
        Checks.due(false, Maps.ofEqual(2, "0>1 1>0").canStandTogether(1, 0));
        Checks.due(false, Maps.ofEqual(2, "0>1").canStandTogether(1, 1));
    }

    @Says("Returns whether successful attacks lead from some argument back to itself, by taking away arguments without "
            + "attackers again and again.")
    static void promise38ShortestAndLongestCycles() {
        for (int count = 1; count <= 4; count++) {
            Graphs.visit(count, (map, attacks) -> Checks.due(cycles(attacks), map.hasCycle()));
        }
        Checks.due(false, new ArgumentMap().hasCycle());
        Checks.due(true, Maps.ofEqual(8, CHAIN + " 7>0").hasCycle());
        Checks.due(false, Maps.ofEqual(8, CHAIN + " 0>7 0>6 0>5 1>7 2>7").hasCycle());
        Checks.due(true, Maps.ofEqual(8, CHAIN + " 1>0").hasCycle());
    }

    @Says("Returns the same as hasCycle, by following attacks in depth.")
    static void promise39ShortestAndLongestCycles() {
        for (int count = 1; count <= 4; count++) {
            Graphs.visit(count, (map, attacks) -> Checks.due(cycles(attacks), map.hasCycleBySearch()));
        }
        Checks.due(false, new ArgumentMap().hasCycleBySearch());
        Checks.due(true, Maps.ofEqual(8, CHAIN + " 7>0").hasCycleBySearch());
        Checks.due(false, Maps.ofEqual(8, CHAIN + " 0>7 0>6 0>5 1>7 2>7").hasCycleBySearch());
        Checks.due(true, Maps.ofEqual(8, CHAIN + " 1>0").hasCycleBySearch());
    }

    private static boolean cycles(int[] attacks) {
        for (int id = 0; id < attacks.length; id++) {
            if (Graphs.leads(attacks, id, id, attacks.length)) {
                return true;
            }
        }
        return false;
    }

    private static final String CHANGE = "Returns the smallest number of days, up to 90, after which some argument has "
            + "another label than now, if only days pass, on a copy.";

    /** An argument of weight 9 fades for the last time on its 80th day, so that no greater number can be the answer. */
    @Says({CHANGE, "Returns the number of days."})
    static void promise40FromOneDayToEighty() {
        for (int passed = 0; passed < 80; passed++) {
            ArgumentMap map = Maps.of(9, 1);
            map.addAttack(1, 0);
            Maps.run(map, passed == 0 ? "renew 0" : "days " + passed);
            Checks.due(80 - passed, map.daysUntilChange());
        }
    }

    @Says(CHANGE)
    static void promise40SmallestOfSeveralNumbers() {
        ArgumentMap map = Maps.of(3, 2, 2, 1);
        Maps.attack(map, "1>0 3>2");
        Checks.due(10, map.daysUntilChange(), "2 fades on the 10th day, 0 on the 10th and the 20th");
        map.setWeight(2, 5);
        Checks.due(20, map.daysUntilChange());
        map.pass(19);
        Checks.due(1, map.daysUntilChange());
        map.pass(1);
        Checks.due(20, map.daysUntilChange());
    }

    @Says(CHANGE)
    static void promise40NothingPasses() {
        Twins.answered(Checks.outcome(() -> Maps.rich().daysUntilChange()), Maps::rich, map -> map.daysUntilChange());
        ArgumentMap map = Maps.of(9, 1);
        map.addAttack(1, 0);
        for (int asked = 0; asked < 3; asked++) {
            Checks.due(80, map.daysUntilChange());
        }
        Checks.due("day 0; 0 w9 a0; 1 w1 a0 -0; moves; totals 0 0 0", Maps.picture(map));
    }

    @Says({"- `days`: the number of days, 0 to 90", "Returns the label, as in status."})
    static void promise41EachNumberOfDays() {
        ArgumentMap map = Maps.of(9, 4, 5);
        Maps.attack(map, "1>0 0>1 2>1");
        ArgumentMap passing = Maps.of(9, 4, 5);
        Maps.attack(passing, "1>0 0>1 2>1");
        for (int days = 0; days <= 90; days++) {
            for (int id = 0; id < 3; id++) {
                Checks.due(passing.status(id), map.statusAfter(id, days), id + " after " + days + " days");
            }
            passing.pass(1);
        }
    }

    @Says("Returns the label that an argument would have after a number of days, if only days passed.")
    static void promise41NothingPasses() {
        Twins.answered('r', Maps::rich, map -> map.statusAfter(1, 0));
        Twins.answered('u', Maps::rich, map -> map.statusAfter(1, 90));
        ArgumentMap map = Maps.of(9, 1);
        map.addAttack(1, 0);
        Checks.due('a', map.statusAfter(0, 79));
        Checks.due('r', map.statusAfter(0, 80));
        Checks.due('r', map.statusAfter(0, 90));
        Checks.due('a', map.statusAfter(0, 0));
        Checks.due('a', map.status(0));
        map.pass(90);
        Checks.due('r', map.statusAfter(0, 90));
        Checks.due('r', map.statusAfter(0, 0));
    }

    @Says({"Returns an argument by its rank in the order of strengths: greater strength first, then fewer attackers, "
            + "then lower id.", "- `rank`: the rank, starting at 0"})
    static void promise42FirstAndLastRank() {
        dueOrder(Maps.of(9, 8, 7, 6, 5, 4, 3, 2), 0, 1, 2, 3, 4, 5, 6, 7);
        dueOrder(Maps.of(2, 3, 4, 5, 6, 7, 8, 9), 7, 6, 5, 4, 3, 2, 1, 0);
        dueOrder(Maps.ofEqual(8, ""), 0, 1, 2, 3, 4, 5, 6, 7);
        dueOrder(Maps.ofEqual(4, "1>0 2>0 3>0 2>1 3>1 3>2"), 3, 2, 1, 0);
        dueOrder(Maps.ofEqual(4, "1>0 0>1"), 2, 3, 0, 1);
        ArgumentMap map = Maps.of(5, 5, 4);
        Maps.attack(map, "2>0 1>2");
        dueOrder(map, 0, 1, 2);
        map.pass(90);
        dueOrder(map, 1, 0, 2);
    }

    private static void dueOrder(ArgumentMap map, int... ids) {
        for (int rank = 0; rank < ids.length; rank++) {
            Checks.due(ids[rank], map.argumentByStrength(rank), "rank " + rank);
        }
        Checks.refused(NoSuchElementException.class, () -> map.argumentByStrength(ids.length));
    }

    @Says({"Returns the number of moves of the dialogue.", "Returns the number, 0 if no dialogue is held."})
    static void promise44FromNoneToTwelve() {
        Checks.due(0, new ArgumentMap().moveCount());
        ArgumentMap map = Maps.fullDialogue();
        Checks.due(12, map.moveCount());
        map.endDialogue();
        Checks.due(0, map.moveCount(), "ended");
        map.startDialogue(0);
        Checks.due(1, map.moveCount());
        map.removeArgument(0);
        Checks.due(0, map.moveCount(), "broken off");
    }

    @Says({"Returns a move of the dialogue.", "- `position`: the position, starting at 0",
        "Returns the id of the argument."})
    static void promise45FirstToTwelfthMove() {
        ArgumentMap map = Maps.fullDialogue();
        for (int position = 0; position < 12; position++) {
            Checks.due(position % 2 == 1 ? 0 : position / 2 + 1, map.moveAt(position));
        }
    }

    @Says({"Returns whether move would return normally now.", "Returns true if it would."})
    static void promise46AsMoveWouldAtEachLength() {
        for (int takenBack = 0; takenBack < 12; takenBack++) {
            for (int id = 0; id < 8; id++) {
                ArgumentMap map = Maps.fullDialogue();
                for (int back = 0; back < takenBack; back++) {
                    map.takeBack();
                }
                int move = id;
                boolean can = map.canMove(move);
                Checks.due(can, Checks.outcome(() -> map.move(move)) instanceof Integer, takenBack + " back, " + id);
                Checks.due(takenBack == 0 ? 12 : 12 - takenBack + (can ? 1 : 0), map.moveCount());
            }
        }
        Checks.due(false, Maps.fullDialogue().canMove(7));
    }

    @Says("Returns the number of dialogues that have been ended so far.")
    static void promise47FromNoneOn() {
        ArgumentMap map = Maps.ofEqual(2, "1>0");
        Checks.due(0, map.dialogueTotal());
        map.startDialogue(0);
        Checks.due(0, map.dialogueTotal(), "held");
        map.endDialogue();
        Checks.due(1, map.dialogueTotal(), "won by the proponent");
        map.startDialogue(0);
        map.move(1);
        map.endDialogue();
        Checks.due(2, map.dialogueTotal(), "won by the opponent");
        map.undo();
        Checks.due(1, map.dialogueTotal(), "undone");
        map.removeArgument(1);
        Checks.due(1, map.dialogueTotal(), "broken off");
    }

    @Says("Returns the number of dialogues that the proponent has won so far.")
    static void promise48FromNoneOn() {
        ArgumentMap map = Maps.ofEqual(2, "1>0");
        Checks.due(0, map.proponentWins());
        map.startDialogue(0);
        map.move(1);
        map.endDialogue();
        Checks.due(0, map.proponentWins(), "won by the opponent");
        map.startDialogue(0);
        map.removeArgument(0);
        Checks.due(0, map.proponentWins(), "broken off");
        map.startDialogue(1);
        map.endDialogue();
        Checks.due(1, map.proponentWins());
        map.undo();
        Checks.due(0, map.proponentWins(), "undone");
    }

    @Says("Returns the number of dialogues that have been broken off so far.")
    static void promise49FromNoneOn() {
        ArgumentMap map = Maps.ofEqual(3, "1>0");
        Checks.due(0, map.brokenOffTotal());
        map.startDialogue(0);
        map.endDialogue();
        Checks.due(0, map.brokenOffTotal(), "ended");
        map.startDialogue(0);
        map.removeArgument(0);
        Checks.due(1, map.brokenOffTotal());
        map.startDialogue(1);
        map.removeArgument(1);
        Checks.due(2, map.brokenOffTotal());
        map.undo();
        Checks.due(1, map.brokenOffTotal(), "undone");
    }

    @Says({"Returns the mean strength of the arguments: the sum, converted to double, divided by their number.",
        "Returns the mean."})
    static void promise50LeastAndGreatestMean() {
        Checks.due(9.0, Maps.of(9, 9, 9, 9, 9, 9, 9, 9).meanStrength());
        ArgumentMap old = Maps.of(9, 8, 7);
        old.pass(90);
        Checks.due(1.0, old.meanStrength());
        Checks.due(1.5, Maps.of(1, 2).meanStrength());
        Checks.due(4.0 / 3.0, Maps.of(1, 1, 2).meanStrength());
        Checks.due(13.0 / 7.0, Maps.of(1, 1, 2, 3, 4, 1, 1).meanStrength());
    }

    @Says({"Returns the number of accepted arguments, converted to float, divided by the number of arguments.",
        "Returns the share."})
    static void promise51LeastAndGreatestShare() {
        Checks.due(0f, Maps.ofEqual(8, PAIRS).acceptedShare());
        Checks.due(1f, Maps.ofEqual(8, "").acceptedShare());
        Checks.due(1f / 3f, Maps.ofEqual(3, "0>1 0>2").acceptedShare());
        Checks.due(6f / 7f, Maps.ofEqual(7, "0>1").acceptedShare());
    }

    @Says({"Checks the map: for all arguments, status is 'a' exactly if isAcceptedByGame is true; stableCount and "
            + "stableCountByLabels agree, and hasCycle and hasCycleBySearch agree.",
        "Returns true if all these checks succeed."})
    static void promise52AllSmallMaps() {
        for (int count = 1; count <= 4; count++) {
            Graphs.visit(count, (map, attacks) -> Checks.due(true, map.isConsistent()));
        }
        Checks.due(true, new ArgumentMap().isConsistent());
        Checks.due(true, Maps.fullOfAttacks().isConsistent());
        Twins.answered(true, Maps::rich, map -> map.isConsistent());
    }
}
