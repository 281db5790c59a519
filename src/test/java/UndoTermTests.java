import java.util.ArrayList;
import java.util.LinkedHashMap;
import java.util.List;
import java.util.Map;
import java.util.function.Consumer;

/** The section "Terms" on undo. */
final class UndoTermTests {
    private UndoTermTests() {
    }

    /** Each kind of change, as a call that returns normally on Maps.rich(). */
    private static Map<String, Consumer<ArgumentMap>> changes() {
        Map<String, Consumer<ArgumentMap>> changes = new LinkedHashMap<>();
        changes.put("addArgument", map -> map.addArgument(4));
        changes.put("removeArgument", map -> map.removeArgument(2));
        changes.put("addAttack", map -> map.addAttack(0, 1));
        changes.put("removeAttack", map -> map.removeAttack(2, 1));
        changes.put("setWeight", map -> map.setWeight(1, 9));
        changes.put("renew", map -> map.renew(1));
        changes.put("move", map -> map.move(2));
        changes.put("takeBack", map -> map.takeBack());
        changes.put("endDialogue", map -> map.endDialogue());
        changes.put("pass", map -> map.pass(40));
        changes.put("run", map -> Maps.run(map, "1;days 5;end;claim 2;add 9"));
        return changes;
    }

    @Says("The calls of the methods to which commands correspond, and of run, that return normally are changes, even "
            + "if they have no effect.")
    static void termsEachMethodMakesOneChange() {
        changes().forEach((name, change) -> {
            ArgumentMap map = Maps.rich();
            map.save();
            map.restore();
            Checks.due(0, map.undoableCount());
            String before = Maps.picture(map);
            change.accept(map);
            Checks.due(false, before.equals(Maps.picture(map)), name + " changes something");
            Checks.due(1, map.undoableCount(), name);
            Checks.due(0, map.undo(), name);
            Checks.due(before, Maps.picture(map), name);
        });
        ArgumentMap map = Maps.of(5);
        map.startDialogue(0);
        Checks.due(2, map.undoableCount());
        Checks.due(1, map.undo());
        Checks.due(false, map.isDialogueHeld());
    }

    @Says("The calls of the methods to which commands correspond, and of run, that return normally are changes, even "
            + "if they have no effect.")
    static void termsChangesWithoutEffect() {
        ArgumentMap map = Maps.of(5);
        map.setWeight(0, 5);
        Checks.due(2, map.undoableCount());
        map.renew(0);
        Checks.due(3, map.undoableCount());
        Maps.run(map, "weigh 0 5;renew 0");
        Checks.due(4, map.undoableCount());
        String same = Maps.picture(map);
        map.undo();
        map.undo();
        map.undo();
        Checks.due(1, map.undoableCount());
        Checks.due(same, Maps.picture(map));
        map.undo();
        Checks.due(0, map.argumentCount());
    }

    @Says("The calls of the methods to which commands correspond, and of run, that return normally are changes, even "
            + "if they have no effect.")
    static void termsWhatIsNoChange() {
        ArgumentMap map = Maps.of(5, 5);
        map.addAttack(0, 1);
        map.startDialogue(1);
        map.undo();
        map.save();
        map.formatArgument(0);
        map.append('x');
        map.statusAfter(0, 50);
        map.isConsistent();
        Checks.refused(IllegalArgumentException.class, map::run);
        Maps.type(map, "days 5;end");
        Checks.refused(IllegalStateException.class, map::run);
        Checks.refused(IllegalStateException.class, () -> map.addAttack(0, 1));
        Checks.refused(IllegalArgumentException.class, () -> map.pass(0));
        Checks.due(3, map.undoableCount());
        Checks.due(2, map.undo());
        Checks.due(0, map.attackCount());
        Checks.due(2, map.argumentCount());
    }

    @Says("Up to 8 changes can be undone, the latest change first.")
    static void termsEightChangesTheLatestFirst() {
        for (int changes = 1; changes <= 30; changes++) {
            ArgumentMap map = new ArgumentMap();
            for (int days = 1; days <= changes; days++) {
                map.pass(days);
            }
            int undoable = Math.min(8, changes);
            Checks.due(undoable, map.undoableCount());
            for (int undone = 1; undone <= undoable; undone++) {
                Checks.due(undoable - undone, map.undo());
                int left = changes - undone;
                Checks.due(left * (left + 1) / 2, map.day(), undone + " of " + changes + " undone");
            }
            Checks.refused(IllegalStateException.class, map::undo);
        }
    }

    @Says("Up to 8 changes can be undone, the latest change first.")
    static void termsChangesAfterUndoneOnes() {
        for (int undone = 0; undone <= 8; undone++) {
            ArgumentMap map = new ArgumentMap();
            List<Integer> days = new ArrayList<>(List.of(0));
            for (int change = 1; change <= 10; change++) {
                map.pass(change);
                days.add(map.day());
            }
            for (int undo = 0; undo < undone; undo++) {
                map.undo();
                days.remove(days.size() - 1);
            }
            for (int change = 1; change <= 5; change++) {
                map.pass(50 + change);
                days.add(map.day());
                Checks.due(Math.min(8, 8 - undone + change), map.undoableCount());
            }
            while (map.undoableCount() > 0) {
                map.undo();
                days.remove(days.size() - 1);
                Checks.due(days.get(days.size() - 1), map.day());
            }
        }
    }

    private static final String UNDO_LEAVES = "Undo does not affect the input buffer, the error position, the index of "
            + "the failed command, the formatted line, or the saved copy.";

    @Says(UNDO_LEAVES)
    static void termsUndoLeavesTheInputBuffer() {
        ArgumentMap map = Maps.of(5, 6);
        Maps.type(map, "weigh 0");
        map.pass(1);
        map.undo();
        Maps.type(map, " 3");
        map.undo();
        Checks.due(10, map.append(';'));
        Maps.type(map, "add 9");
        Checks.due(2, map.run());
        Checks.due("day 0; 0 w3 a0; 1 w9 a0; moves; totals 0 0 0", Maps.picture(map));
        Maps.type(map, "en");
        map.undo();
        Checks.due(3, map.append('d'), "the program that was undone is not in the buffer again");
    }

    @Says(UNDO_LEAVES)
    static void termsUndoLeavesTheErrorPosition() {
        ArgumentMap map = Maps.of(5);
        map.pass(1);
        Maps.type(map, "add 5;x");
        Checks.refused(IllegalArgumentException.class, map::run);
        map.undo();
        map.undo();
        Checks.due(6, map.errorPosition());
    }

    @Says(UNDO_LEAVES)
    static void termsUndoLeavesTheFailedCommand() {
        ArgumentMap map = Maps.of(5);
        map.pass(1);
        Maps.type(map, "renew 0;days 3;back");
        Checks.refused(IllegalStateException.class, map::run);
        map.undo();
        map.undo();
        Checks.due(2, map.failedCommand());
    }

    @Says(UNDO_LEAVES)
    static void termsUndoLeavesTheLine() {
        ArgumentMap map = Maps.of(5);
        map.setWeight(0, 7);
        Checks.due(7, map.formatArgument(0));
        map.undo();
        Checks.due("0(7/7)a", Maps.line(map));
        map.undo();
        Checks.due("0(7/7)a", Maps.line(map));
    }

    @Says(UNDO_LEAVES)
    static void termsUndoLeavesTheSavedCopy() {
        ArgumentMap map = Maps.of(5, 6);
        map.save();
        map.setWeight(0, 9);
        map.undo();
        map.undo();
        Checks.due(1, map.argumentCount());
        Checks.due(2, map.restore());
        Checks.due("day 0; 0 w5 a0; 1 w6 a0; moves; totals 0 0 0", Maps.picture(map));
    }
}
