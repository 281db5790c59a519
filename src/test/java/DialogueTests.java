import java.util.NoSuchElementException;

/** Promises 8 to 11 and 43 to 49: dialogues. */
final class DialogueTests {
    private DialogueTests() {
    }

    /** Two arguments that attack each other make the longest dialogue that the rules of the game allow with them. */
    private static ArgumentMap fullDialogue() {
        ArgumentMap map = Maps.ofEqual(7, "0>1 1>0 0>2 2>0 0>3 3>0 0>4 4>0 0>5 5>0 0>6 6>0");
        map.startDialogue(1);
        for (int proponents = 2; proponents <= 6; proponents++) {
            map.move(0);
            map.move(proponents);
        }
        map.move(0);
        return map;
    }

    static void promise08StartCountsTheAnswers() {
        ArgumentMap map = Maps.of(5, 5, 5, 4);
        Maps.attack(map, "1>0 2>0 3>0");
        Checks.due(2, map.startDialogue(0));
        Checks.due(true, map.isDialogueHeld());
        Checks.due(1, map.moveCount());
        Checks.due(0, map.moveAt(0));
    }

    static void promise08Refusals() {
        ArgumentMap map = Maps.of(5);
        Checks.refused(NoSuchElementException.class, () -> map.startDialogue(1));
        Checks.due(0, map.startDialogue(0));
        Checks.refused(IllegalStateException.class, () -> map.startDialogue(0));
        Checks.refused(NoSuchElementException.class, () -> map.startDialogue(1));
        Checks.due(1, map.moveCount());
    }

    static void promise09MovesAttackTheMoveBefore() {
        ArgumentMap map = Maps.ofEqual(4, "0>1 1>0 1>2 2>3");
        map.startDialogue(3);
        Checks.refused(IllegalArgumentException.class, () -> map.move(1));
        Checks.refused(IllegalArgumentException.class, () -> map.move(3));
        Checks.due(2, map.move(2));
        Checks.due(3, map.move(1));
        Checks.due(4, map.move(0));
        Checks.refused(IllegalArgumentException.class, () -> map.move(1));
        Checks.due(4, map.moveCount());
    }

    static void promise09OnlyTheProponentMustNotRepeat() {
        ArgumentMap map = Maps.ofEqual(3, "0>1 1>0 0>2 2>0");
        map.startDialogue(1);
        Checks.due(2, map.move(0));
        Checks.refused(IllegalArgumentException.class, () -> map.move(1));
        Checks.due(3, map.move(2));
        Checks.due(4, map.move(0));
        Checks.refused(IllegalArgumentException.class, () -> map.move(2));
    }

    static void promise09TheProponentMayMoveWhatTheOpponentMoved() {
        ArgumentMap map = Maps.ofEqual(3, "0>1 1>2 2>0");
        map.startDialogue(0);
        Checks.due(2, map.move(2));
        Checks.due(3, map.move(1));
        Checks.due(4, map.move(0), "the opponent may move what the proponent moved");
        Checks.due(5, map.move(2), "and the proponent what the opponent moved");
    }

    static void promise09SuccessCountsAsItIsThen() {
        ArgumentMap map = Maps.of(5, 4);
        map.addAttack(1, 0);
        Checks.due(0, map.startDialogue(0));
        Checks.refused(IllegalArgumentException.class, () -> map.move(1));
        map.setWeight(0, 4);
        Checks.due(2, map.move(1));
    }

    static void promise09Refusals() {
        ArgumentMap map = Maps.ofEqual(2, "0>1");
        Checks.refused(NoSuchElementException.class, () -> map.move(0));
        map.startDialogue(1);
        Checks.refused(NoSuchElementException.class, () -> map.move(2));
        Checks.refused(NoSuchElementException.class, () -> map.move(-1));
        Checks.due(1, map.moveCount());
    }

    static void promise09TwelveMovesAreAll() {
        ArgumentMap map = fullDialogue();
        Checks.due(12, map.moveCount());
        map.addArgument(9);
        map.addAttack(7, 0);
        Checks.refused(IllegalStateException.class, () -> map.move(7));
        Checks.refused(IllegalArgumentException.class, () -> map.move(1));
        Checks.refused(NoSuchElementException.class, () -> map.move(8));
        Checks.due(12, map.moveCount());
    }

    static void promise10LastMoveIsTakenBack() {
        ArgumentMap map = Maps.ofEqual(3, "0>1 1>2");
        Checks.refused(NoSuchElementException.class, () -> map.takeBack());
        map.startDialogue(2);
        Checks.refused(IllegalStateException.class, () -> map.takeBack());
        map.move(1);
        map.move(0);
        Checks.due(2, map.takeBack());
        Checks.due(true, map.canMove(0), "what was taken back has not been moved");
        Checks.due(1, map.takeBack());
        Checks.refused(IllegalStateException.class, () -> map.takeBack());
        Checks.due(2, map.moveAt(0));
        Checks.due(2, map.move(1));
    }

    static void promise11LastMoveWins() {
        ArgumentMap map = Maps.ofEqual(2, "0>1");
        Checks.refused(NoSuchElementException.class, () -> map.endDialogue());
        map.startDialogue(1);
        Checks.due('p', map.endDialogue(), "the opponent could have moved, but has not");
        Checks.due(false, map.isDialogueHeld());
        map.startDialogue(1);
        map.move(0);
        Checks.due('o', map.endDialogue());
        Checks.refused(NoSuchElementException.class, () -> map.endDialogue());
        Checks.due('o', fullDialogue().endDialogue());
    }

    @Says({"Returns whether a dialogue is held.", "Returns true if one is held."})
    static void promise43HeldFromStartToEnd() {
        ArgumentMap map = Maps.of(5);
        Checks.due(false, map.isDialogueHeld());
        map.startDialogue(0);
        Checks.due(true, map.isDialogueHeld());
        map.removeArgument(0);
        Checks.due(false, map.isDialogueHeld());
    }

    static void promise44MovesAreCounted() {
        ArgumentMap map = Maps.ofEqual(2, "0>1");
        Checks.due(0, map.moveCount());
        map.startDialogue(1);
        map.move(0);
        Checks.due(2, map.moveCount());
        map.endDialogue();
        Checks.due(0, map.moveCount());
    }

    static void promise45MovesByPosition() {
        ArgumentMap map = Maps.ofEqual(3, "0>1 1>2");
        Checks.refused(IndexOutOfBoundsException.class, () -> map.moveAt(0));
        map.startDialogue(2);
        map.move(1);
        map.move(0);
        Checks.due(2, map.moveAt(0));
        Checks.due(1, map.moveAt(1));
        Checks.due(0, map.moveAt(2));
        Checks.refused(IndexOutOfBoundsException.class, () -> map.moveAt(3));
        Checks.refused(IndexOutOfBoundsException.class, () -> map.moveAt(-1));
        Checks.refused(IndexOutOfBoundsException.class, () -> fullDialogue().moveAt(12));
        map.endDialogue();
        Checks.refused(IndexOutOfBoundsException.class, () -> map.moveAt(0));
    }

    static void promise46CanMoveAsMoveWould() {
        ArgumentMap map = Maps.ofEqual(3, "0>1 1>0 0>2");
        Checks.refused(NoSuchElementException.class, () -> map.canMove(0));
        map.startDialogue(1);
        Checks.due(true, map.canMove(0));
        Checks.due(false, map.canMove(1));
        Checks.due(false, map.canMove(2));
        Checks.refused(NoSuchElementException.class, () -> map.canMove(3));
        map.move(0);
        Checks.due(false, map.canMove(1), "the proponent has moved it");
        Checks.due(2, map.moveCount());
    }

    static void promise46NoMoveBehindTheTwelfth() {
        ArgumentMap map = fullDialogue();
        map.addArgument(9);
        map.addAttack(7, 0);
        Checks.due(false, map.canMove(7));
        map.takeBack();
        Checks.due(true, map.canMove(0));
    }

    static void promise47EndedDialoguesAreCounted() {
        ArgumentMap map = Maps.of(5);
        for (int ended = 1; ended <= 3; ended++) {
            map.startDialogue(0);
            Checks.due(ended - 1, map.dialogueTotal());
            map.endDialogue();
            Checks.due(ended, map.dialogueTotal());
        }
        map.startDialogue(0);
        map.removeArgument(0);
        Checks.due(3, map.dialogueTotal(), "one that is broken off is not ended");
    }

    static void promise48WinsOfTheProponentAreCounted() {
        ArgumentMap map = Maps.ofEqual(2, "0>1");
        map.startDialogue(1);
        map.endDialogue();
        Checks.due(1, map.proponentWins());
        map.startDialogue(1);
        map.move(0);
        map.endDialogue();
        Checks.due(1, map.proponentWins());
        map.startDialogue(1);
        map.removeArgument(1);
        Checks.due(1, map.proponentWins());
    }

    static void promise49BrokenOffWhenAMovedArgumentLeaves() {
        ArgumentMap map = Maps.ofEqual(4, "0>1 1>0 0>2 3>0");
        map.startDialogue(1);
        map.move(0);
        map.removeArgument(2);
        Checks.due(0, map.brokenOffTotal(), "2 was not moved");
        Checks.due(2, map.moveCount());
        map.removeArgument(1);
        Checks.due(1, map.brokenOffTotal());
        Checks.due(false, map.isDialogueHeld());
        map.startDialogue(0);
        map.move(3);
        map.removeArgument(3);
        Checks.due(2, map.brokenOffTotal());
        map.removeArgument(0);
        Checks.due(2, map.brokenOffTotal(), "no dialogue is held");
    }

    static void promise49OneDialogueBreaksOffOnce() {
        ArgumentMap map = Maps.ofEqual(3, "0>1 1>0 0>2 2>0");
        map.startDialogue(1);
        map.move(0);
        map.move(2);
        map.move(0);
        map.removeArgument(0);
        Checks.due(1, map.brokenOffTotal());
        Checks.due(0, map.dialogueTotal());
    }

    static void promise49WhatWasTakenBackBreaksNothing() {
        ArgumentMap map = Maps.ofEqual(2, "0>1");
        map.startDialogue(1);
        map.move(0);
        map.takeBack();
        map.removeArgument(0);
        Checks.due(0, map.brokenOffTotal());
        Checks.due(1, map.moveCount());
    }
}
