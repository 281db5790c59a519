import java.util.function.Function;

/** The section "Terms" on commands: the input buffer, the grammar, and the error position. */
final class CommandTermTests {
    /** One example of each command, for a map of three arguments with the attack 0>1 and a dialogue about 1. */
    private static final String[] COMMANDS = {"add 5", "remove 2", "attack 1>2", "yield 0>1", "weigh 1 7", "renew 2",
        "claim 0", "reply 0", "back", "end", "days 7"};

    private static final String ERROR_POSITION = "The error position of a malformed program is the index of the first "
            + "character that no valid program can have there after the characters before it, or the length of the "
            + "program if it is a proper prefix of a valid program.";

    private CommandTermTests() {
    }

    private static void dueError(int position, String text) {
        ArgumentMap map = new ArgumentMap();
        Maps.type(map, text);
        Checks.due(IllegalArgumentException.class, Checks.outcome(map::run), text);
        Checks.due(position, map.errorPosition(), text);
    }

    /** The program may fail, but not as a malformed one. */
    private static void dueWellFormed(String text) {
        ArgumentMap map = new ArgumentMap();
        Maps.type(map, text);
        Checks.due(false, IllegalArgumentException.class.equals(Checks.outcome(map::run)), text);
    }

    @Says("The input buffer holds up to 60 characters.")
    static void termsSixtyCharacters() {
        ArgumentMap map = new ArgumentMap();
        Maps.type(map, "add 1;add 2;add 3;add 4;add 5;add 6;add 7;add 8;days 9;end;x");
        Checks.refused(IllegalStateException.class, () -> map.append('x'));
        Checks.refused(IllegalArgumentException.class, map::run);
        Checks.due(59, map.errorPosition());
        Maps.type(map, "add 1;add 2;add 3;add 4;add 5;add 6;add 7;claim 0;end;days 9");
        Checks.refused(IllegalStateException.class, () -> map.append(';'));
        Checks.due(10, map.run());
        Checks.due(9, map.day());
    }

    @Says({"program = command { \";\" command }", "A program in the input buffer has this grammar, where { x } means "
            + "zero or more repetitions of x and a vertical bar separates alternatives:"})
    static void termsPrograms() {
        dueWellFormed("end");
        dueWellFormed("end;end");
        dueWellFormed("back;end;add 1;days 1;back");
        dueWellFormed("end;end;end;end;end;end;end;end;end;end;end;end;end;end;end");
        dueError(0, "");
        dueError(0, ";end");
        dueError(4, "end;");
        dueError(4, "end;;end");
        dueError(3, "end end");
        dueError(3, "end ;end");
        dueError(4, "end; end");
        dueError(3, "endend");
        dueError(60, "end;".repeat(15));
    }

    @Says("command = \"add \" digit | \"remove \" number | \"attack \" number \">\" number | \"yield \" number \">\" "
            + "number | \"weigh \" number \" \" digit | \"renew \" number | \"claim \" number | \"reply \" number | "
            + "\"back\" | \"end\" | \"days \" number")
    static void termsEachCommandAlone() {
        for (String command : COMMANDS) {
            dueWellFormed(command);
            dueWellFormed("end;" + command + ";" + command);
            dueError(command.length(), command + " ");
            dueError(command.length(), command + "x");
        }
        dueError(5, "add 12");
        dueError(9, "weigh 1 23");
        dueError(9, "attack 12");
        dueError(0, "pass 1");
        dueError(0, "move 1");
        dueError(0, "undo");
        dueError(0, "save");
        dueError(0, "takeback");
    }

    @Says("number = digit | digit digit")
    static void termsNumbers() {
        for (int number = 0; number <= 99; number++) {
            dueWellFormed("days " + number);
            dueWellFormed("days " + number / 10 + number % 10);
            dueWellFormed("attack " + number + ">" + number);
            dueError(7, "days " + number / 10 + number % 10 + "0");
        }
        ArgumentMap map = Maps.of(5);
        Checks.due(4, Maps.run(map, "days 01;days 9;days 10;days 90"));
        Checks.due(110, map.day());
        dueError(5, "days ");
        dueError(5, "days -1");
        dueError(5, "days +1");
        dueError(6, "days 1.");
        dueError(5, "days x");
    }

    /** Two maps alike: one takes the call, the other the program; both then show the same. */
    private static void dueSame(String program, Function<ArgumentMap, Object> call) {
        ArgumentMap called = commanded();
        call.apply(called);
        ArgumentMap commanded = commanded();
        Checks.due(1, Maps.run(commanded, program), program);
        Checks.due(Maps.picture(called), Maps.picture(commanded), program);
        Checks.due(called.undoableCount(), commanded.undoableCount(), program);
        Checks.due(false, Maps.picture(commanded()).equals(Maps.picture(commanded)), program + " changes something");
    }

    private static ArgumentMap commanded() {
        ArgumentMap map = Maps.of(5, 4, 3, 8);
        Maps.attack(map, "0>1 3>1");
        map.pass(4);
        map.startDialogue(1);
        map.move(0);
        return map;
    }

    @Says("The commands correspond to the methods addArgument, removeArgument, addAttack, removeAttack (yield), "
            + "setWeight, renew, startDialogue (claim), move (reply), takeBack, endDialogue and pass, with the "
            + "arguments in the same order.")
    static void termsCommandsAndMethods() {
        dueSame("add 7", map -> map.addArgument(7));
        dueSame("remove 1", map -> map.removeArgument(1));
        dueSame("attack 2>3", map -> map.addAttack(2, 3));
        dueSame("yield 3>1", map -> map.removeAttack(3, 1));
        dueSame("weigh 2 6", map -> map.setWeight(2, 6));
        dueSame("renew 3", map -> map.renew(3));
        dueSame("back", map -> map.takeBack());
        dueSame("end", map -> map.endDialogue());
        dueSame("days 12", map -> map.pass(12));
        ArgumentMap map = commanded();
        Checks.due(4, Maps.run(map, "end;claim 1;reply 3;add 1"));
        Checks.due(1, map.moveAt(0));
        Checks.due(3, map.moveAt(1));
    }

    @Says(ERROR_POSITION)
    static void termsErrorPositionOfAWrongCharacter() {
        for (String command : COMMANDS) {
            String program = "end;" + command;
            for (int index = 0; index < program.length(); index++) {
                for (char character = ' '; character <= '~'; character++) {
                    dueAsPlain(program.substring(0, index) + character + program.substring(index + 1));
                }
            }
        }
    }

    private static void dueAsPlain(String program) {
        ArgumentMap map = new ArgumentMap();
        Maps.type(map, program);
        if (PlainMap.isWellFormed(program)) {
            Checks.due(false, IllegalArgumentException.class.equals(Checks.outcome(map::run)), program);
        } else {
            Checks.due(IllegalArgumentException.class, Checks.outcome(map::run), program);
            Checks.due(PlainMap.errorPositionOf(program), map.errorPosition(), program);
        }
    }

    @Says(ERROR_POSITION)
    static void termsErrorPositionOfAProperPrefix() {
        for (String command : COMMANDS) {
            for (int length = 0; length < command.length(); length++) {
                dueError(length, command.substring(0, length));
                dueError(length + 4, "end;" + command.substring(0, length));
            }
        }
        dueError(8, "attack 1");
        dueError(9, "attack 12");
        dueError(7, "weigh 1");
        dueError(8, "weigh 12");
        dueError(60, "end;".repeat(15));
        dueError(60, "end;".repeat(14) + "days");
        dueError(60, "end;".repeat(13) + "attack 1");
    }

    @Says("Keywords are matched letter by letter.")
    static void termsLetterByLetter() {
        dueError(1, "abd 1");
        dueError(1, "a");
        dueError(2, "atd");
        dueError(2, "ad");
        dueError(3, "rem");
        dueError(2, "reb");
        dueError(4, "remow");
        dueError(3, "renov");
        dueError(4, "repli 1");
        dueError(3, "renly 1");
        dueError(1, "ye");
        dueError(2, "yi");
        dueError(0, "ADD 1");
        dueError(1, "aDd 1");
        dueError(4, "weigs 1 1");
        dueError(5, "weighs 1 1");
        dueError(1, "eN");
    }
}
