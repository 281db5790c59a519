/** The section "Terms" on dialogues. */
final class DialogueTermTests {
    private DialogueTermTests() {
    }

    @Says("At most one dialogue is held at a time.")
    static void termsOneDialogueAtATime() {
        ArgumentMap map = Maps.of(5, 5);
        map.startDialogue(0);
        Checks.refused(IllegalStateException.class, () -> map.startDialogue(1));
        Checks.refused(IllegalStateException.class, () -> map.startDialogue(0));
        Maps.type(map, "claim 1");
        Checks.refused(IllegalStateException.class, map::run);
        Checks.due(0, map.moveAt(0));
        Checks.due(1, map.moveCount());
        Checks.due(3, Maps.run(map, "end;claim 1;renew 0"));
        Checks.due(1, map.moveAt(0));
        map.removeArgument(1);
        Checks.due(0, map.startDialogue(0), "after one that was broken off");
        map.undo();
        Checks.due(0, map.startDialogue(0), "after one whose start was undone");
    }

    @Says("It begins with an argument, which is the first move, by the proponent.")
    static void termsFirstMoveIsTheProponents() {
        ArgumentMap map = Maps.ofEqual(2, "0>1 1>0");
        map.startDialogue(1);
        Checks.due(1, map.moveCount());
        Checks.due(1, map.moveAt(0));
        Checks.due(2, map.formatDialogue());
        Checks.due("p1", Maps.line(map));
        Checks.due(2, map.move(0));
        Checks.refused(IllegalArgumentException.class, () -> map.move(1));
        map.takeBack();
        Checks.due('p', map.endDialogue());
        Checks.due(1, map.proponentWins());
    }

    @Says("Each further move follows the rules of the game, by the successful attacks as they are then.")
    static void termsMovesFollowTheAttacksOfTheMoment() {
        ArgumentMap map = Maps.of(5, 4, 4);
        Maps.attack(map, "1>0 2>1");
        Checks.due(0, map.startDialogue(0), "no attacker is strong enough yet");
        Checks.due(false, map.canMove(1));
        map.setWeight(0, 4);
        Checks.due(true, map.canMove(1));
        Checks.due(2, map.move(1));
        map.setWeight(0, 9);
        Checks.due(true, map.canMove(2), "that an earlier attack fails now does not matter");
        map.removeAttack(2, 1);
        Checks.refused(IllegalArgumentException.class, () -> map.move(2));
        map.addAttack(2, 1);
        map.pass(10);
        map.renew(1);
        Checks.refused(IllegalArgumentException.class, () -> map.move(2));
        map.pass(10);
        map.renew(2);
        Checks.due(3, map.move(2));
    }

    @Says("Each further move follows the rules of the game, by the successful attacks as they are then.")
    static void termsOnlyTheProponentsOwnMovesAreBarred() {
        ArgumentMap map = Maps.ofEqual(3, "1>0 0>1 2>1 0>2 1>2");
        map.startDialogue(0);
        map.move(1);
        Checks.due(false, map.canMove(0), "the proponent has moved 0");
        map.move(2);
        Checks.due(true, map.canMove(1), "the opponent may move 1 again");
        Checks.due(true, map.canMove(0), "the opponent may move what the proponent moved");
        map.move(0);
        Checks.due(true, map.canMove(1), "the proponent may move what the opponent moved");
        map.move(1);
        Checks.due("p0 o1 p2 o0 p1", dialogue(map));
        map.move(2);
        Checks.due(false, map.canMove(0));
        Checks.due(false, map.canMove(1));
        Checks.due(6, map.moveCount());
        map.endDialogue();
        map.startDialogue(2);
        map.move(1);
        Checks.due(true, map.canMove(0), "moves of an earlier dialogue are free again");
    }

    private static String dialogue(ArgumentMap map) {
        map.formatDialogue();
        return Maps.line(map);
    }

    @Says("A dialogue has at most 12 moves.")
    static void termsTwelveMoves() {
        ArgumentMap map = Maps.fullDialogue();
        Checks.due(12, map.moveCount());
        Checks.due(false, map.canMove(7));
        Checks.refused(IllegalStateException.class, () -> map.move(7));
        Maps.type(map, "reply 7");
        Checks.refused(IllegalStateException.class, map::run);
        Checks.due(12, map.moveCount());
        Checks.due(11, map.takeBack());
        Checks.due(12, map.move(0));
        Checks.due("p1 o0 p2 o0 p3 o0 p4 o0 p5 o0 p6 o0", dialogue(map));
        Checks.due('o', map.endDialogue());
        Checks.due(7, map.startDialogue(0), "the next dialogue begins at its first move");
        Checks.due(1, map.moveCount());
    }

    @Says("When a dialogue is ended, its winner is the side that made the last move.")
    static void termsTheLastMoveWins() {
        for (int moves = 1; moves <= 12; moves++) {
            ArgumentMap map = Maps.fullDialogue();
            for (int takenBack = 12; takenBack > moves; takenBack--) {
                map.takeBack();
            }
            Checks.due(moves % 2 == 1 ? 'p' : 'o', map.endDialogue(), moves + " moves");
            Checks.due(moves % 2, map.proponentWins());
            Checks.due(1, map.dialogueTotal());
        }
    }

    private static void dueBrokenOff(boolean want, int removed) {
        ArgumentMap map = Maps.ofEqual(5, "1>0 2>1 3>2 4>0");
        map.startDialogue(0);
        map.move(1);
        map.move(2);
        map.removeArgument(removed);
        Checks.due(!want, map.isDialogueHeld(), "without " + removed);
        Checks.due(want ? 0 : 3, map.moveCount());
        Checks.due(want ? 1 : 0, map.brokenOffTotal());
        Checks.due(0, map.dialogueTotal());
        Checks.due(0, map.proponentWins(), "no winner");
    }

    @Says("When an argument leaves the map that was moved in the present dialogue, the dialogue is broken off without "
            + "a winner.")
    static void termsBrokenOff() {
        dueBrokenOff(true, 0);
        dueBrokenOff(true, 1);
        dueBrokenOff(true, 2);
        dueBrokenOff(false, 3);
        dueBrokenOff(false, 4);
    }

    @Says("When an argument leaves the map that was moved in the present dialogue, the dialogue is broken off without "
            + "a winner.")
    static void termsBrokenOffByThePresentDialogueAlone() {
        ArgumentMap map = Maps.ofEqual(4, "1>0 2>1 3>1");
        map.startDialogue(0);
        map.move(1);
        map.move(2);
        map.endDialogue();
        map.startDialogue(0);
        map.move(1);
        map.removeArgument(2);
        Checks.due(2, map.moveCount(), "2 was moved in the dialogue before");
        map.removeAttack(1, 0);
        Checks.due(2, map.moveCount(), "an attack that leaves breaks nothing off");
        Maps.run(map, "remove 1");
        Checks.due(false, map.isDialogueHeld(), "broken off by a program");
        Checks.due(1, map.brokenOffTotal());
        map.undo();
        Checks.due(2, map.moveCount(), "held again when the removal is undone");
        Checks.due(0, map.brokenOffTotal());
    }
}
