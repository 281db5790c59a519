import java.util.NoSuchElementException;

/** Promises 53 to 55: the formatted line. */
final class LineTests {
    private LineTests() {
    }

    static void promise53ArgumentWithItsAttackers() {
        ArgumentMap map = Maps.of(9, 5, 5, 5, 5, 5, 5, 9);
        Maps.attack(map, "7>3 0>3 1>3");
        map.pass(10);
        map.setWeight(1, 3);
        Checks.due(11, map.formatArgument(3));
        Checks.due("3(4/5)r<0<7", Maps.line(map, 11));
        Checks.due(6 + 1, map.formatArgument(0));
        Checks.due("0(8/9)a", Maps.line(map, 7));
        Checks.refused(IndexOutOfBoundsException.class, () -> map.lineChar(7));
    }

    static void promise53LongIdsAndUndecided() {
        ArgumentMap map = new ArgumentMap();
        for (int id = 0; id < 9; id++) {
            map.removeArgument(map.addArgument(1));
        }
        map.addArgument(4);
        map.addArgument(4);
        Maps.attack(map, "9>10 10>9");
        Checks.due(10, map.formatArgument(10));
        Checks.due("10(4/4)u<9", Maps.line(map, 10));
        Checks.due(10, map.formatArgument(9));
        Checks.due("9(4/4)u<10", Maps.line(map, 10));
    }

    static void promise53RefusalLeavesTheLine() {
        ArgumentMap map = Maps.of(2);
        map.formatArgument(0);
        Checks.refused(NoSuchElementException.class, () -> map.formatArgument(1));
        Checks.due("0(2/2)a", Maps.line(map, 7));
    }

    static void promise54DialogueWithItsSides() {
        ArgumentMap map = Maps.ofEqual(4, "0>3 2>0");
        map.startDialogue(3);
        Checks.due(2, map.formatDialogue());
        Checks.due("p3", Maps.line(map, 2));
        map.move(0);
        map.move(2);
        Checks.due(8, map.formatDialogue());
        Checks.due("p3 o0 p2", Maps.line(map, 8));
        map.takeBack();
        Checks.due(5, map.formatDialogue());
        Checks.refused(IndexOutOfBoundsException.class, () -> map.lineChar(5));
    }

    static void promise54RefusalLeavesTheLine() {
        ArgumentMap map = Maps.of(2);
        map.startDialogue(0);
        map.formatDialogue();
        map.endDialogue();
        Checks.refused(NoSuchElementException.class, () -> map.formatDialogue());
        Checks.due("p0", Maps.line(map, 2));
    }

    static void promise55CharactersOfTheLine() {
        ArgumentMap map = Maps.of(2);
        Checks.refused(IndexOutOfBoundsException.class, () -> map.lineChar(0));
        map.formatArgument(0);
        Checks.due('0', map.lineChar(0));
        Checks.due('a', map.lineChar(6));
        Checks.refused(IndexOutOfBoundsException.class, () -> map.lineChar(7));
        Checks.refused(IndexOutOfBoundsException.class, () -> map.lineChar(-1));
        map.setWeight(0, 7);
        Checks.due('2', map.lineChar(2), "the line does not follow the map");
    }
}
