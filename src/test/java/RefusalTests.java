import java.util.NoSuchElementException;
import java.util.function.Function;
import java.util.function.Supplier;

/** The refusals other than of unknown ids: what is just refused, what is just not, and that nothing changes. */
final class RefusalTests {
    private RefusalTests() {
    }

    private static ArgumentMap eight() {
        return Maps.of(1, 2, 3, 4, 5, 6, 7, 8);
    }

    private static void missing(Supplier<ArgumentMap> setup, Function<ArgumentMap, Object> call) {
        Twins.refused(NoSuchElementException.class, setup, call);
    }

    private static void wrong(Supplier<ArgumentMap> setup, Function<ArgumentMap, Object> call) {
        Twins.refused(IllegalArgumentException.class, setup, call);
    }

    private static void untimely(Supplier<ArgumentMap> setup, Function<ArgumentMap, Object> call) {
        Twins.refused(IllegalStateException.class, setup, call);
    }

    private static void outside(Supplier<ArgumentMap> setup, Function<ArgumentMap, Object> call) {
        Twins.refused(IndexOutOfBoundsException.class, setup, call);
    }

    // ---- arguments and attacks

    @Says("Throws `IllegalArgumentException` if the weight is out of range")
    static void promise02WeightOutOfRange() {
        for (int weight : new int[] {Integer.MIN_VALUE, -1, 0, 10, 11, 256 + 5, Integer.MAX_VALUE}) {
            wrong(Maps::rich, map -> map.addArgument(weight));
        }
    }

    @Says("- `weight`: the weight, 1 to 9")
    static void promise02WeightsInRange() {
        for (int weight = 1; weight <= 9; weight++) {
            ArgumentMap map = new ArgumentMap();
            Checks.due(0, map.addArgument(weight));
            Checks.due(weight, map.weightOf(0));
        }
    }

    @Says("Throws `IllegalStateException` if 8 arguments are in the map")
    static void promise02NinthArgument() {
        untimely(RefusalTests::eight, map -> map.addArgument(1));
        untimely(RefusalTests::eight, map -> map.addArgument(9));
        Checks.due(7, Maps.of(1, 2, 3, 4, 5, 6, 7).addArgument(9));
    }

    @Says("Throws `IllegalArgumentException` if both are the same")
    static void promise04ArgumentOnItself() {
        for (int id = 0; id < 3; id++) {
            int same = id;
            wrong(Maps::rich, map -> map.addAttack(same, same));
        }
    }

    @Says("Throws `IllegalStateException` if there is this attack, or there are 20 attacks")
    static void promise04AttackThatThereIs() {
        untimely(Maps::rich, map -> map.addAttack(1, 0));
        untimely(Maps::rich, map -> map.addAttack(0, 2));
        Checks.due(false, Maps.rich().isSuccessful(0, 2), "there is it though it is not successful");
        Checks.due(4, Maps.rich().addAttack(0, 1), "back from the one that is attacked");
    }

    @Says("Throws `IllegalStateException` if there is this attack, or there are 20 attacks")
    static void promise04TwentyFirstAttack() {
        untimely(Maps::fullOfAttacks, map -> map.addAttack(4, 0));
        untimely(Maps::fullOfAttacks, map -> map.addAttack(5, 4));
        untimely(Maps::fullOfAttacks, map -> map.addAttack(0, 1));
        ArgumentMap map = Maps.fullOfAttacks();
        Checks.due(19, map.removeAttack(3, 5));
        Checks.due(20, map.addAttack(5, 4), "the twentieth attack");
    }

    @Says("Throws `NoSuchElementException` if no argument has this id, for either, or there is no such attack")
    static void promise05NoSuchAttack() {
        missing(Maps::rich, map -> map.removeAttack(0, 1));
        missing(Maps::rich, map -> map.removeAttack(2, 0));
        missing(Maps::rich, map -> map.removeAttack(0, 0));
        missing(Maps::rich, map -> map.removeAttack(2, 2));
        missing(() -> Maps.of(1, 2), map -> map.removeAttack(0, 1));
        Checks.due(2, Maps.rich().removeAttack(0, 2), "an attack that is not successful");
    }

    @Says("Throws `IllegalArgumentException` if the weight is out of range")
    static void promise06WeightOutOfRange() {
        for (int weight : new int[] {Integer.MIN_VALUE, -1, 0, 10, 11, 256 + 5, Integer.MAX_VALUE}) {
            wrong(Maps::rich, map -> map.setWeight(1, weight));
        }
    }

    @Says("- `weight`: the weight, 1 to 9")
    static void promise06WeightsInRange() {
        ArgumentMap map = Maps.of(9);
        for (int weight = 1; weight <= 9; weight++) {
            Checks.due(weight == 1 ? 9 : weight - 1, map.setWeight(0, weight));
            Checks.due(weight, map.weightOf(0));
        }
    }

    // ---- dialogues and days

    @Says("Throws `IllegalStateException` if a dialogue is held")
    static void promise08DialogueIsHeld() {
        for (int id = 0; id < 3; id++) {
            int claim = id;
            untimely(Maps::rich, map -> map.startDialogue(claim));
        }
        untimely(() -> started(Maps.of(5)), map -> map.startDialogue(0));
        Checks.due(1, Maps.quiet().startDialogue(0), "after the end of one");
    }

    private static ArgumentMap started(ArgumentMap map) {
        map.startDialogue(0);
        return map;
    }

    private static ArgumentMap brokenOff() {
        ArgumentMap map = Maps.rich();
        map.removeArgument(0);
        return map;
    }

    /** In each of the ways in which no dialogue is held: none ever, one ended, one broken off. */
    private static void missingWithoutDialogue(Function<ArgumentMap, Object> call) {
        missing(ArgumentMap::new, call);
        missing(() -> Maps.ofEqual(3, "1>0 2>1"), call);
        missing(Maps::quiet, call);
        missing(RefusalTests::brokenOff, call);
    }

    @Says("Throws `NoSuchElementException` if no dialogue is held, or no argument has this id")
    static void promise09NoDialogue() {
        missingWithoutDialogue(map -> map.move(1));
        missingWithoutDialogue(map -> map.move(2));
        Checks.due(3, Maps.rich().move(2));
    }

    @Says("Throws `IllegalArgumentException` if the rules do not allow this move")
    static void promise09MoveThatIsNoAttacker() {
        wrong(() -> started(Maps.ofEqual(3, "1>0 2>1 0>2")), map -> map.move(2));
        wrong(() -> started(Maps.ofEqual(3, "1>0 2>1 0>2")), map -> map.move(0));
        wrong(() -> started(Maps.of(5)), map -> map.move(0));
        wrong(Maps::rich, map -> map.move(0));
        wrong(Maps::rich, map -> map.move(1));
    }

    @Says("Throws `IllegalArgumentException` if the rules do not allow this move")
    static void promise09MoveWhoseAttackFails() {
        wrong(() -> started(failing()), map -> map.move(1));
        ArgumentMap map = started(failing());
        map.setWeight(0, 4);
        Checks.due(2, map.move(1));
    }

    private static ArgumentMap failing() {
        ArgumentMap map = Maps.of(5, 4);
        map.addAttack(1, 0);
        return map;
    }

    @Says("Throws `IllegalArgumentException` if the rules do not allow this move")
    static void promise09MoveThatTheProponentRepeats() {
        wrong(() -> replied(Maps.ofEqual(2, "1>0 0>1"), 1), map -> map.move(0));
        wrong(() -> replied(Maps.ofEqual(3, "1>0 0>1 2>1 1>2"), 1, 2, 1), map -> map.move(0));
        wrong(() -> replied(Maps.ofEqual(3, "1>0 0>1 2>1 1>2"), 1, 2, 1), map -> map.move(2));
    }

    private static ArgumentMap replied(ArgumentMap map, int... replies) {
        map.startDialogue(0);
        for (int reply : replies) {
            map.move(reply);
        }
        return map;
    }

    @Says("Throws `IllegalStateException` if the dialogue has 12 moves")
    static void promise09ThirteenthMove() {
        untimely(Maps::fullDialogue, map -> map.move(7));
        ArgumentMap map = Maps.fullDialogue();
        map.takeBack();
        Checks.due(12, map.move(0), "the twelfth move");
    }

    @Says("Throws `NoSuchElementException` if no dialogue is held")
    static void promise10NoDialogue() {
        missingWithoutDialogue(map -> map.takeBack());
    }

    @Says("Throws `IllegalStateException` if it has only 1 move")
    static void promise10OnlyTheFirstMove() {
        untimely(() -> started(Maps.ofEqual(2, "1>0")), map -> map.takeBack());
        Checks.due(1, Maps.rich().takeBack(), "of two moves");
    }

    @Says("Throws `NoSuchElementException` if no dialogue is held")
    static void promise11NoDialogue() {
        missingWithoutDialogue(map -> map.endDialogue());
    }

    @Says("Throws `IllegalArgumentException` if the number of days is out of range")
    static void promise12DaysOutOfRange() {
        for (int days : new int[] {Integer.MIN_VALUE, -90, -1, 0, 91, 92, 256 + 1, Integer.MAX_VALUE}) {
            wrong(Maps::rich, map -> map.pass(days));
            wrong(ArgumentMap::new, map -> map.pass(days));
        }
    }

    @Says("- `days`: the number of days, 1 to 90")
    static void promise12DaysInRange() {
        for (int days = 1; days <= 90; days++) {
            ArgumentMap map = Maps.of(5);
            Checks.due(0, map.pass(days));
            Checks.due(days, map.day());
            Checks.due(days, map.ageOf(0));
        }
    }

    // ---- questions

    @Says("Throws `IndexOutOfBoundsException` if the position is negative or not less than the number of arguments")
    static void promise15PositionOutside() {
        for (int position : new int[] {Integer.MIN_VALUE, -1, 3, 4, 8, Integer.MAX_VALUE}) {
            outside(Maps::rich, map -> map.idAt(position));
        }
        outside(ArgumentMap::new, map -> map.idAt(0));
        outside(RefusalTests::eight, map -> map.idAt(8));
        outside(RefusalTests::eight, map -> map.idAt(-1));
        Checks.due(2, Maps.rich().idAt(2));
        Checks.due(7, eight().idAt(7));
    }

    @Says("Throws `NoSuchElementException` if no argument has this id, for either, or there is no such attack")
    static void promise21NoSuchAttack() {
        missing(Maps::rich, map -> map.isSuccessful(0, 1));
        missing(Maps::rich, map -> map.isSuccessful(2, 0));
        missing(Maps::rich, map -> map.isSuccessful(1, 1));
        missing(() -> Maps.of(5, 5), map -> map.isSuccessful(0, 1));
        Checks.due(false, Maps.rich().isSuccessful(0, 2));
    }

    @Says("Throws `IndexOutOfBoundsException` if the position is negative or not less than the number of attackers")
    static void promise24PositionOutside() {
        for (int position : new int[] {Integer.MIN_VALUE, -1, 1, 2, 8, Integer.MAX_VALUE}) {
            outside(Maps::rich, map -> map.attackerAt(0, position));
        }
        outside(Maps::rich, map -> map.attackerAt(2, 0));
        Checks.due(1, Maps.rich().attackerAt(0, 0));
        ArgumentMap all = Maps.ofEqual(8, "0>3 1>3 2>3 4>3 5>3 6>3 7>3");
        Checks.due(7, all.attackerAt(3, 6));
        Checks.refused(IndexOutOfBoundsException.class, () -> all.attackerAt(3, 7));
    }

    @Says("Throws `NoSuchElementException` if no argument has this id, or it is undecided")
    static void promise26Undecided() {
        for (int id = 0; id < 3; id++) {
            int undecided = id;
            missing(() -> Maps.ofEqual(3, "0>1 1>2 2>0"), map -> map.roundOf(undecided));
        }
        missing(() -> Maps.ofEqual(4, "0>1 1>0 1>2 3>2"), map -> map.roundOf(1));
        Checks.due(1, Maps.ofEqual(4, "0>1 1>0 1>2 3>2").roundOf(2));
    }

    @Says("Throws `NoSuchElementException` if there is no such number")
    static void promise40NoChange() {
        missing(ArgumentMap::new, map -> map.daysUntilChange());
        missing(() -> Maps.of(9, 1), map -> map.daysUntilChange());
        missing(() -> Maps.ofEqual(2, "0>1 1>0"), map -> map.daysUntilChange());
        missing(RefusalTests::allOld, map -> map.daysUntilChange());
    }

    private static ArgumentMap allOld() {
        ArgumentMap map = Maps.of(9, 1);
        map.addAttack(1, 0);
        map.pass(80);
        return map;
    }

    @Says("Throws `IllegalArgumentException` if the number of days is out of range")
    static void promise41DaysOutOfRange() {
        for (int days : new int[] {Integer.MIN_VALUE, -90, -1, 91, 92, 256, Integer.MAX_VALUE}) {
            wrong(Maps::rich, map -> map.statusAfter(0, days));
        }
    }

    @Says("Throws `NoSuchElementException` if there is no such rank")
    static void promise42NoSuchRank() {
        for (int rank : new int[] {Integer.MIN_VALUE, -1, 3, 4, 8, Integer.MAX_VALUE}) {
            missing(Maps::rich, map -> map.argumentByStrength(rank));
        }
        missing(ArgumentMap::new, map -> map.argumentByStrength(0));
        missing(RefusalTests::eight, map -> map.argumentByStrength(8));
        Checks.due(0, eight().argumentByStrength(7));
    }

    @Says("Throws `IndexOutOfBoundsException` if there is no such move")
    static void promise45NoSuchMove() {
        for (int position : new int[] {Integer.MIN_VALUE, -1, 2, 3, 11, 12, Integer.MAX_VALUE}) {
            outside(Maps::rich, map -> map.moveAt(position));
        }
        outside(ArgumentMap::new, map -> map.moveAt(0));
        outside(Maps::quiet, map -> map.moveAt(0));
        outside(RefusalTests::brokenOff, map -> map.moveAt(0));
        outside(Maps::fullDialogue, map -> map.moveAt(12));
        Checks.due(0, Maps.fullDialogue().moveAt(11));
        Checks.due(6, Maps.fullDialogue().moveAt(10));
        Checks.due(1, Maps.fullDialogue().moveAt(0));
    }

    @Says("Throws `NoSuchElementException` if no dialogue is held, or no argument has this id")
    static void promise46NoDialogue() {
        missingWithoutDialogue(map -> map.canMove(1));
        missingWithoutDialogue(map -> map.canMove(2));
    }

    @Says("Throws `ArithmeticException` if there are no arguments")
    static void promise50NoArguments() {
        Twins.refused(ArithmeticException.class, ArgumentMap::new, map -> map.meanStrength());
        Twins.refused(ArithmeticException.class, RefusalTests::emptied, map -> map.meanStrength());
        Checks.due(1.0, Maps.of(1).meanStrength());
    }

    @Says("Throws `ArithmeticException` if there are no arguments")
    static void promise51NoArguments() {
        Twins.refused(ArithmeticException.class, ArgumentMap::new, map -> map.acceptedShare());
        Twins.refused(ArithmeticException.class, RefusalTests::emptied, map -> map.acceptedShare());
        Checks.due(1f, Maps.of(1).acceptedShare());
    }

    private static ArgumentMap emptied() {
        ArgumentMap map = Maps.rich();
        for (int id = 0; id < 3; id++) {
            map.removeArgument(id);
        }
        return map;
    }

    // ---- the line, programs, undo

    @Says("Throws `NoSuchElementException` if no dialogue is held")
    static void promise54NoDialogue() {
        missingWithoutDialogue(map -> map.formatDialogue());
    }

    @Says("Throws `IndexOutOfBoundsException` if the index is negative or not less than the length of the line")
    static void promise55IndexOutside() {
        for (int index : new int[] {Integer.MIN_VALUE, -1, 9, 10, Integer.MAX_VALUE}) {
            outside(Maps::rich, map -> map.lineChar(index));
        }
        outside(ArgumentMap::new, map -> map.lineChar(0));
        outside(() -> Maps.of(5), map -> map.lineChar(0));
        Checks.due("0(5/5)a<1".length(), Maps.line(Maps.rich()).length());
        Checks.due('1', Maps.rich().lineChar(8));
        Checks.due('0', Maps.rich().lineChar(0));
    }

    @Says("Throws `IllegalArgumentException` if the character is not in the range from ' ' to '~'")
    static void promise56CharacterOutside() {
        for (int code = 0; code <= Character.MAX_VALUE; code += code < 300 ? 1 : 251) {
            char character = (char) code;
            Object want = code >= 32 && code <= 126 ? (Object) 1 : IllegalArgumentException.class;
            Checks.due(want, Checks.outcome(() -> new ArgumentMap().append(character)), "character " + code);
        }
        wrong(Maps::rich, map -> map.append((char) 31));
        wrong(Maps::rich, map -> map.append((char) 127));
        wrong(Maps::rich, map -> map.append((char) (256 + 'a')));
        wrong(Maps::rich, map -> map.append(Character.MAX_VALUE));
    }

    @Says("Throws `IllegalStateException` if the buffer contains 60 characters")
    static void promise56SixtyFirstCharacter() {
        untimely(() -> Maps.typed(Maps.rich(), "x".repeat(54)), map -> map.append('0'));
        untimely(() -> Maps.typed(new ArgumentMap(), "~".repeat(60)), map -> map.append(' '));
        Checks.due(60, Maps.typed(new ArgumentMap(), "~".repeat(59)).append(' '));
    }

    @Says("Throws `IllegalArgumentException` if the program is malformed; the error position is stored")
    static void promise57MalformedProgram() {
        for (String text : new String[] {"", "add", "add 5;", "add x", "add 5;;", "add 55", "end;x", "remove 123"}) {
            ArgumentMap map = Maps.of(5, 5);
            map.startDialogue(0);
            String before = Maps.picture(map);
            Maps.type(map, text);
            Checks.due(IllegalArgumentException.class, Checks.outcome(map::run), text);
            Checks.due(before, Maps.picture(map), text);
            Checks.due(3, map.undoableCount(), text);
            Checks.due(PlainMap.errorPositionOf(text), map.errorPosition(), text);
            Checks.refused(NoSuchElementException.class, map::failedCommand);
        }
    }

    @Says("Throws `IllegalStateException` if the method of a command throws an exception; "
            + "the index of this command, starting at 0, is stored")
    static void promise57CommandThatThrows() {
        for (String failing : new String[] {"add 0", "remove 7", "attack 0>7", "attack 7>0", "attack 1>1",
            "attack 0>1", "yield 7>0", "yield 0>7", "yield 1>0", "weigh 7 5", "weigh 0 0", "renew 7", "claim 7",
            "claim 0", "reply 7", "reply 2", "days 0", "days 91", "days 99"}) {
            dueFailed(failing, 0);
            dueFailed("renew 0;" + failing, 1);
            dueFailed("renew 0;days 9;" + failing + ";renew 0", 2);
            dueFailed(failing + ";" + failing, 0);
        }
        dueFailed("back", 0);
        dueFailed("end;back", 1);
        dueFailed("end;end", 1);
        dueFailed("end;reply 0", 1);
        dueFailed("add 1;add 1;add 1;add 1;add 1;add 1;add 1", 5);
    }

    /** In a map of three arguments with the attack 0>1, and a dialogue with the first move alone. */
    private static void dueFailed(String program, int command) {
        ArgumentMap map = Maps.ofEqual(3, "0>1");
        map.startDialogue(1);
        String before = Maps.picture(map);
        Maps.type(map, program);
        Checks.due(IllegalStateException.class, Checks.outcome(map::run), program);
        Checks.due(command, map.failedCommand(), program);
        Checks.due(before, Maps.picture(map), program);
        Checks.due(5, map.undoableCount(), program);
        Checks.due(3, map.addArgument(1), program);
        Checks.refused(NoSuchElementException.class, map::errorPosition);
    }

    @Says("Throws `NoSuchElementException` if no program was malformed so far")
    static void promise58NoErrorSoFar() {
        missing(ArgumentMap::new, map -> map.errorPosition());
        missing(() -> Maps.typed(new ArgumentMap(), "x"), map -> map.errorPosition());
        ArgumentMap map = Maps.of(5);
        Maps.run(map, "renew 0");
        Checks.refused(NoSuchElementException.class, map::errorPosition);
        Maps.type(map, "renew 1");
        Checks.refused(IllegalStateException.class, map::run);
        Checks.refused(NoSuchElementException.class, map::errorPosition);
        Checks.refused(IllegalArgumentException.class, map::run);
        Checks.due(0, map.errorPosition());
    }

    @Says("Throws `NoSuchElementException` if no command failed so far")
    static void promise59NoFailureSoFar() {
        missing(ArgumentMap::new, map -> map.failedCommand());
        ArgumentMap map = Maps.of(5);
        Checks.refused(NoSuchElementException.class, () -> map.renew(1));
        Maps.run(map, "renew 0");
        Checks.refused(NoSuchElementException.class, map::failedCommand);
        Checks.refused(IllegalArgumentException.class, map::run);
        Checks.refused(NoSuchElementException.class, map::failedCommand);
        Maps.type(map, "end");
        Checks.refused(IllegalStateException.class, map::run);
        Checks.due(0, map.failedCommand());
    }

    @Says("Throws `IllegalStateException` if no change can be undone")
    static void promise61NothingToUndo() {
        untimely(ArgumentMap::new, map -> map.undo());
        untimely(() -> allUndone(Maps.rich()), map -> map.undo());
        untimely(() -> restored(Maps.rich()), map -> map.undo());
        Checks.due(0, Maps.of(5).undo());
    }

    private static ArgumentMap allUndone(ArgumentMap map) {
        for (int undone = 0; undone < 8; undone++) {
            map.undo();
        }
        return map;
    }

    private static ArgumentMap restored(ArgumentMap map) {
        map.restore();
        return map;
    }

    @Says("Throws `IllegalStateException` if there is no saved copy")
    static void promise63NoSavedCopy() {
        untimely(ArgumentMap::new, map -> map.restore());
        untimely(() -> Maps.of(5, 6), map -> map.restore());
        ArgumentMap empty = new ArgumentMap();
        empty.save();
        Checks.due(0, empty.restore(), "a copy of a map without arguments");
    }
}
