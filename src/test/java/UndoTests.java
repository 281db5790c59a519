import java.util.ArrayList;
import java.util.List;

/** Promises 60 to 63: undo, save and restore. */
final class UndoTests {
    private UndoTests() {
    }

    static void promise60ChangesAreCountedUpToEight() {
        ArgumentMap map = new ArgumentMap();
        for (int changes = 1; changes <= 10; changes++) {
            map.pass(1);
            Checks.due(Math.min(8, changes), map.undoableCount());
        }
        map.undo();
        Checks.due(7, map.undoableCount());
        map.pass(1);
        Checks.due(8, map.undoableCount());
    }

    static void promise60ChangesWithoutEffectCount() {
        ArgumentMap map = Maps.of(5);
        map.setWeight(0, 5);
        map.renew(0);
        Checks.due(3, map.undoableCount());
    }

    static void promise60EachChangeCountsOnce() {
        ArgumentMap map = Maps.of(5, 5);
        map.addAttack(0, 1);
        Checks.due(3, map.undoableCount());
        map.startDialogue(1);
        map.move(0);
        map.takeBack();
        map.endDialogue();
        Checks.due(7, map.undoableCount());
        map.undo();
        map.undo();
        map.undo();
        map.undo();
        map.removeAttack(0, 1);
        map.removeArgument(1);
        Checks.due(5, map.undoableCount());
        Maps.run(map, "add 5;add 5;add 5");
        Checks.due(6, map.undoableCount());
    }

    static void promise60RefusedChangesAndQuestionsDoNotCount() {
        ArgumentMap map = Maps.of(5);
        Checks.refused(IllegalArgumentException.class, () -> map.addArgument(0));
        Checks.refused(IllegalArgumentException.class, () -> map.pass(0));
        Checks.refused(IllegalArgumentException.class, () -> map.run());
        Maps.type(map, "end");
        Checks.refused(IllegalStateException.class, () -> map.run());
        map.save();
        map.formatArgument(0);
        map.isConsistent();
        map.append('x');
        Checks.due(1, map.undoableCount());
    }

    static void promise61EachChangeIsUndone() {
        ArgumentMap map = Maps.ofEqual(3, "0>1 1>0 2>0");
        List<String> pictures = new ArrayList<>();
        List<Runnable> changes = List.of(() -> map.startDialogue(1), () -> map.move(0), () -> map.move(2),
                () -> map.takeBack(), () -> map.endDialogue(), () -> map.startDialogue(0), () -> map.pass(50),
                () -> map.removeArgument(0), () -> map.addArgument(4), () -> map.renew(1), () -> map.setWeight(2, 9),
                () -> map.addAttack(2, 1), () -> map.removeAttack(2, 1), () -> Maps.run(map, "add 4;days 7;claim 2"));
        for (Runnable change : changes) {
            pictures.add(Maps.picture(map));
            change.run();
        }
        for (int undone = 1; undone <= 8; undone++) {
            Checks.due(8 - undone, map.undo());
            Checks.due(pictures.get(changes.size() - undone), Maps.picture(map));
        }
        Checks.refused(IllegalStateException.class, () -> map.undo());
        Checks.due(pictures.get(changes.size() - 8), Maps.picture(map));
    }

    static void promise61UndoBetweenChanges() {
        ArgumentMap map = new ArgumentMap();
        Checks.refused(IllegalStateException.class, () -> map.undo());
        for (int days = 1; days <= 20; days++) {
            map.pass(1);
            map.pass(2);
            map.undo();
        }
        Checks.due(20, map.day());
        Checks.due(7, map.undoableCount());
        map.undo();
        Checks.due(19, map.day());
    }

    static void promise61NextFreeIdIsTakenBack() {
        ArgumentMap map = Maps.of(5, 5);
        map.undo();
        Checks.due(1, map.addArgument(3));
        Maps.run(map, "add 1;add 1");
        map.undo();
        Checks.due(2, map.addArgument(3));
    }

    static void promise61TotalsAreTakenBack() {
        ArgumentMap map = Maps.of(5);
        map.startDialogue(0);
        map.endDialogue();
        map.startDialogue(0);
        map.removeArgument(0);
        Checks.due(1, map.brokenOffTotal());
        map.undo();
        Checks.due(0, map.brokenOffTotal());
        Checks.due(1, map.moveCount());
        map.undo();
        map.undo();
        Checks.due(0, map.dialogueTotal());
        Checks.due(0, map.proponentWins());
        Checks.due(true, map.isDialogueHeld());
    }

    static void promise61RestStays() {
        ArgumentMap map = Maps.of(5);
        map.save();
        map.setWeight(0, 6);
        map.formatArgument(0);
        Maps.type(map, "add ");
        Checks.refused(IllegalArgumentException.class, () -> map.run());
        Maps.type(map, "renew 0;end");
        Checks.refused(IllegalStateException.class, () -> map.run());
        Maps.type(map, "add ");
        Checks.due(1, map.undo());
        Checks.due(0, map.undo());
        Checks.due("0(6/6)a", Maps.line(map, 7));
        Checks.due(4, map.errorPosition());
        Checks.due(1, map.failedCommand());
        Checks.due(5, map.append('7'));
        Checks.due(1, map.run());
        Checks.due(7, map.weightOf(0));
        Checks.due(1, map.restore());
        Checks.due(5, map.weightOf(0));
    }

    static void promise61UndoneRunLeavesTheBufferEmpty() {
        ArgumentMap map = new ArgumentMap();
        Maps.run(map, "add 5");
        map.undo();
        Checks.due(1, map.append('x'));
    }

    static void promise62SaveIsACopy() {
        ArgumentMap map = Maps.ofEqual(3, "0>1 1>0 2>0");
        map.startDialogue(0);
        map.move(1);
        map.pass(10);
        String before = Maps.picture(map);
        Checks.due(3, map.save());
        map.endDialogue();
        map.removeArgument(1);
        map.pass(3);
        map.setWeight(0, 9);
        map.restore();
        Checks.due(before, Maps.picture(map));
        Checks.due(0, new ArgumentMap().save());
    }

    static void promise62LaterCopyReplaces() {
        ArgumentMap map = Maps.of(5);
        map.save();
        map.addArgument(6);
        Checks.due(2, map.save());
        map.addArgument(7);
        Checks.due(2, map.restore());
        Checks.due(6, map.weightOf(1));
    }

    static void promise62SaveKeepsWhatCanBeUndone() {
        ArgumentMap map = Maps.of(5);
        map.save();
        Checks.due(1, map.undoableCount());
        Checks.due(0, map.undo());
        Checks.due(0, map.argumentCount());
        Checks.due(1, map.restore());
    }

    @Says("Returns the number of arguments.")
    static void promise63RestoreMoreThanOnce() {
        ArgumentMap map = Maps.of(5, 5);
        Checks.refused(IllegalStateException.class, () -> map.restore());
        map.save();
        map.addArgument(5);
        Checks.due(2, map.restore());
        Checks.due(0, map.undoableCount());
        Checks.refused(IllegalStateException.class, () -> map.undo());
        Checks.due(2, map.addArgument(5), "the next free id is restored");
        Checks.due(1, map.undoableCount());
        map.addAttack(0, 1);
        Checks.due(2, map.restore());
        Checks.due(0, map.attackCount());
    }

    static void promise63RefusalKeepsTheChanges() {
        ArgumentMap map = Maps.of(5);
        Checks.refused(IllegalStateException.class, () -> map.restore());
        Checks.due(1, map.undoableCount());
    }

    static void promise63EmptyCopy() {
        ArgumentMap map = new ArgumentMap();
        map.save();
        map.addArgument(5);
        Checks.due(0, map.restore());
        Checks.due(0, map.argumentCount());
        Checks.due(0, map.addArgument(5));
    }

    static void promise63RestStays() {
        ArgumentMap map = Maps.rich();
        String line = Maps.line(map);
        map.save();
        Maps.type(map, "1;x");
        Checks.refused(IllegalArgumentException.class, map::run);
        Maps.type(map, "renew 2;days 1;remove 9");
        Checks.refused(IllegalStateException.class, map::run);
        Maps.type(map, "days 4");
        map.restore();
        Checks.due(line, Maps.line(map));
        Checks.due(8, map.errorPosition());
        Checks.due(2, map.failedCommand());
        Checks.due(1, map.run());
        Checks.due(7, map.day());
    }

    static void promise63TotalsAndDayAreRestored() {
        ArgumentMap map = Maps.of(5);
        map.save();
        map.startDialogue(0);
        map.endDialogue();
        map.startDialogue(0);
        map.removeArgument(0);
        map.pass(5);
        map.restore();
        Checks.due("day 0; 0 w5 a0; moves; totals 0 0 0", Maps.picture(map));
    }
}
