import java.util.NoSuchElementException;

/** What promises 53 to 63 name as bounds: of the line, the input buffer, programs, and what can be undone. */
final class ProgramBoundTests {
    private ProgramBoundTests() {
    }

    @Says({"Formats an argument into the line, replacing the previous line: its id, \"(\", its strength, \"/\", its "
            + "weight, \")\", its label and, for each attacker in the order of ids, \"<\" and the id of the attacker.",
        "Returns the length of the line."})
    static void promise53FromNoAttackerToSeven() {
        ArgumentMap map = Maps.ofEqual(8, "7>3 5>3 6>3 0>3 2>3 1>3 4>3");
        Checks.due(21, map.formatArgument(3));
        Checks.due("3(5/5)r<0<1<2<4<5<6<7", Maps.line(map));
        Checks.due(7, map.formatArgument(0));
        Checks.due("0(5/5)a", Maps.line(map), "a shorter line replaces a longer one");
        map.pass(90);
        Checks.due(7, map.formatArgument(0));
        Checks.due("0(1/5)a", Maps.line(map));
        map.addAttack(3, 0);
        map.removeArgument(7);
        Maps.run(map, "remove 1;remove 2;remove 4;remove 5;remove 6");
        Checks.due(9, map.formatArgument(0));
        Checks.due("0(1/5)u<3", Maps.line(map));
    }

    @Says("An example is \"3(4/5)r<0<7\".")
    static void promise53Example() {
        ArgumentMap map = Maps.of(5, 1, 1, 5, 1, 1, 1, 5);
        map.pass(10);
        Maps.attack(map, "7>3 0>3 1>3 3>1");
        Checks.due(11, map.formatArgument(3));
        Checks.due("3(4/5)r<0<7", Maps.line(map));
    }

    @Says({"Formats the dialogue into the line, replacing the previous line: for each move \"p\" or \"o\" for its side "
            + "and the id, with a blank between two moves.", "Returns the length of the line."})
    static void promise54FromOneMoveToTwelve() {
        ArgumentMap map = Maps.fullDialogue();
        Checks.due(35, map.formatDialogue());
        Checks.due("p1 o0 p2 o0 p3 o0 p4 o0 p5 o0 p6 o0", Maps.line(map));
        map.endDialogue();
        map.startDialogue(6);
        Checks.due(2, map.formatDialogue());
        Checks.due("p6", Maps.line(map), "a shorter line replaces a longer one");
        map.endDialogue();
        map.removeArgument(1);
        map.removeArgument(2);
        map.addArgument(5);
        map.removeArgument(8);
        map.addArgument(5);
        map.removeArgument(9);
        map.addArgument(5);
        map.startDialogue(10);
        Checks.due(3, map.formatDialogue());
        Checks.due("p10", Maps.line(map));
    }

    @Says("An example is \"p3 o0 p2\".")
    static void promise54Example() {
        ArgumentMap map = Maps.ofEqual(4, "0>3 2>0");
        map.startDialogue(3);
        map.move(0);
        map.move(2);
        Checks.due(8, map.formatDialogue());
        Checks.due("p3 o0 p2", Maps.line(map));
    }

    @Says({"Returns a character of the line, which is empty at first.", "- `index`: the index, starting at 0",
        "Returns the character."})
    static void promise55FirstAndLastCharacter() {
        ArgumentMap map = Maps.of(5);
        Checks.due("", Maps.line(map));
        map.formatArgument(0);
        Checks.due('0', map.lineChar(0));
        Checks.due('(', map.lineChar(1));
        Checks.due('a', map.lineChar(6));
        Checks.refused(IndexOutOfBoundsException.class, () -> map.lineChar(7));
    }

    @Says({"Appends a character to the input buffer.", "Returns the number of characters in the buffer."})
    static void promise56FromTheFirstToTheSixtieth() {
        ArgumentMap map = new ArgumentMap();
        for (int length = 1; length <= 60; length++) {
            Checks.due(length, map.append((char) (' ' + length)));
        }
        Checks.refused(IllegalStateException.class, () -> map.append('a'));
        Checks.refused(IllegalArgumentException.class, map::run);
        Checks.due(1, map.append('a'));
    }

    @Says({"Parses the contents of the input buffer as a program and executes it.",
        "Returns the number of commands."})
    static void promise57FromOneCommandToTwelve() {
        for (int commands = 1; commands <= 12; commands++) {
            ArgumentMap map = Maps.fullDialogue();
            Checks.due(commands, Maps.run(map, "back;".repeat(commands - 1) + "end"));
            Checks.due((commands + 1) % 2, map.proponentWins());
            Checks.due(false, map.isDialogueHeld());
        }
        Checks.due(1, Maps.run(new ArgumentMap(), "days 90"));
    }

    @Says("Either all commands are executed or none.")
    static void promise57TheLastCommandFails() {
        ArgumentMap map = Maps.rich();
        String before = Maps.picture(map);
        Maps.type(map, "0;days 9;end;remove 1;add 3;weigh 0 9;attack 4>0;back");
        Checks.refused(IllegalStateException.class, map::run);
        Checks.due(7, map.failedCommand());
        Checks.due(before, Maps.picture(map));
        Checks.due(8, map.undoableCount());
        Checks.due(7, Maps.run(map, "days 9;end;remove 1;add 3;weigh 0 9;attack 4>0;renew 4"));
        Checks.due("day 12; 0 w9 a12 >2; 2 w7 a12; 4 w3 a0 -0; moves; totals 1 0 0", Maps.picture(map));
    }

    @Says("The buffer is empty afterwards, even if an exception is thrown.")
    static void promise57TheBufferIsEmptyAfterwards() {
        ArgumentMap map = Maps.of(5);
        Maps.run(map, "renew 0");
        Checks.due(1, map.append('a'), "after a program that was executed");
        Checks.refused(IllegalArgumentException.class, map::run);
        Checks.due(1, map.append('e'), "after a malformed program");
        Maps.type(map, "nd");
        Checks.refused(IllegalStateException.class, map::run);
        Checks.due(1, map.append('e'), "after a command that failed");
        Checks.refused(IllegalArgumentException.class, map::run);
        Checks.refused(IllegalArgumentException.class, map::run);
        Checks.due(0, map.errorPosition(), "the empty program");
    }

    @Says({"Returns the stored error position.", "Returns the error position of the latest malformed program."})
    static void promise58FromNoughtToSixty() {
        ArgumentMap map = new ArgumentMap();
        for (int length = 0; length <= 60; length += 4) {
            Maps.type(map, "end;".repeat(length / 4));
            Checks.refused(IllegalArgumentException.class, map::run);
            Checks.due(length, map.errorPosition());
        }
        Maps.type(map, "x");
        Checks.refused(IllegalArgumentException.class, map::run);
        Checks.due(0, map.errorPosition(), "the latest one");
        Maps.run(map, "add 1");
        Checks.due(0, map.errorPosition(), "well-formed programs leave it");
    }

    @Says({"Returns the stored index of a failed command.", "Returns the index of the latest command that failed."})
    static void promise59FromTheFirstToTheLast() {
        ArgumentMap map = new ArgumentMap();
        for (int index = 9; index >= 0; index--) {
            Maps.type(map, "days 1;".repeat(Math.min(8, index)) + (index == 9 ? "add " : "back"));
            Checks.outcome(map::run);
            Checks.due(index == 9 ? (Object) NoSuchElementException.class : index, Checks.outcome(map::failedCommand));
        }
        Maps.type(map, "add");
        Checks.refused(IllegalArgumentException.class, map::run);
        Maps.run(map, "days 1");
        Checks.due(0, map.failedCommand(), "other programs leave it");
        Maps.type(map, "days 1;back;back");
        Checks.refused(IllegalStateException.class, map::run);
        Checks.due(1, map.failedCommand(), "the latest one");
        Checks.due(1, map.day());
    }

    @Says({"Returns the number of changes that can be undone.", "Returns the number, 0 to 8."})
    static void promise60FromNoughtToEight() {
        ArgumentMap map = new ArgumentMap();
        Checks.due(0, map.undoableCount());
        for (int changes = 1; changes <= 20; changes++) {
            map.pass(1);
            Checks.due(Math.min(8, changes), map.undoableCount());
        }
        for (int left = 7; left >= 0; left--) {
            map.undo();
            Checks.due(left, map.undoableCount());
        }
        Checks.refused(IllegalStateException.class, map::undo);
        Checks.due(0, map.undoableCount());
    }

    @Says({"Undoes the latest change that has not been undone.",
        "Returns the number of changes that can still be undone."})
    static void promise61FromSevenToNought() {
        ArgumentMap map = new ArgumentMap();
        for (int change = 1; change <= 9; change++) {
            map.pass(change);
        }
        int day = 45;
        for (int left = 7; left >= 0; left--) {
            Checks.due(left, map.undo());
            day -= left + 2;
            Checks.due(day, map.day());
        }
        Checks.refused(IllegalStateException.class, map::undo);
        Checks.due(1, map.day());
    }

    @Says({"Saves a copy of everything that changes can change, replacing an earlier copy.",
        "Returns the number of arguments."})
    static void promise62FromNoneToEight() {
        ArgumentMap map = new ArgumentMap();
        for (int count = 0; count <= 8; count++) {
            Checks.due(count, map.save());
            Checks.due(count, map.restore());
            if (count < 8) {
                Checks.due(count, map.addArgument(5));
            }
        }
        Checks.due(8, map.restore(), "the latest copy");
    }

    @Says("Saves a copy of everything that changes can change, replacing an earlier copy.")
    static void promise62AllThatChangesCanChange() {
        ArgumentMap map = Maps.quiet();
        map.startDialogue(2);
        map.removeArgument(2);
        map.startDialogue(0);
        map.move(1);
        String before = Maps.picture(map);
        Checks.due(2, map.save(), "replaces a copy of four arguments");
        map.takeBack();
        map.endDialogue();
        map.startDialogue(1);
        map.removeArgument(1);
        map.addArgument(9);
        map.addAttack(0, 4);
        map.pass(50);
        map.setWeight(0, 2);
        map.renew(0);
        Checks.due(2, map.restore());
        Checks.due(before, Maps.picture(map));
        Checks.due(4, map.addArgument(1), "the next free id");
    }

    @Says("Restores the saved copy, which stays available.")
    static void promise63AgainAndAgain() {
        ArgumentMap map = Maps.rich();
        Checks.due(3, map.save());
        String before = Maps.picture(map);
        for (int times = 0; times < 10; times++) {
            map.removeArgument(0);
            map.pass(90);
            map.addArgument(9);
            map.addAttack(4, 1);
            map.startDialogue(1);
            Checks.due(3, map.restore());
            Checks.due(before, Maps.picture(map));
        }
        Checks.due(3, map.restore(), "twice in turn");
        Checks.due(4, map.addArgument(5));
    }

    @Says("No changes can be undone afterwards.")
    static void promise63NothingToUndo() {
        ArgumentMap map = Maps.rich();
        Checks.due(8, map.undoableCount());
        map.restore();
        Checks.due(0, map.undoableCount());
        Checks.refused(IllegalStateException.class, map::undo);
        map.pass(1);
        Checks.due(0, map.undo());
        Checks.refused(IllegalStateException.class, map::undo);
        Checks.due(4, map.argumentCount());
    }
}
