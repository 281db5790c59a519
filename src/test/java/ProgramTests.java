import java.util.NoSuchElementException;

/** Promises 56 to 59: the input buffer and the programs in it. */
final class ProgramTests {
    private ProgramTests() {
    }

    private static void dueError(int position, String text) {
        ArgumentMap map = Maps.of(5);
        Maps.type(map, text);
        Checks.due(IllegalArgumentException.class, Checks.outcome(() -> map.run()), text);
        Checks.due(position, map.errorPosition(), text);
        Checks.due(1, map.append(' '), text + " has left the buffer");
        Checks.due(1, map.undoableCount());
    }

    static void promise56CharactersAreCounted() {
        ArgumentMap map = new ArgumentMap();
        Checks.due(1, map.append(' '));
        Checks.due(2, map.append('~'));
        Checks.refused(IllegalArgumentException.class, () -> map.append((char) 31));
        Checks.refused(IllegalArgumentException.class, () -> map.append((char) 127));
        Checks.refused(IllegalArgumentException.class, () -> map.append((char) 0));
        Checks.refused(IllegalArgumentException.class, () -> map.append((char) 65535));
        Checks.due(3, map.append('a'));
    }

    static void promise56SixtyCharactersAreAll() {
        ArgumentMap map = new ArgumentMap();
        for (int length = 1; length <= 60; length++) {
            Checks.due(length, map.append('x'));
        }
        Checks.refused(IllegalStateException.class, () -> map.append('x'));
        Checks.refused(IllegalArgumentException.class, () -> map.append('\n'));
        Checks.refused(IllegalArgumentException.class, () -> map.run());
        Checks.due(1, map.append('x'));
    }

    static void promise57EachCommand() {
        ArgumentMap map = new ArgumentMap();
        Checks.due(4, Maps.run(map, "add 5;add 6;add 7;attack 1>0"));
        Checks.due("day 0; 0 w5 a0; 1 w6 a0 >0; 2 w7 a0; moves; totals 0 0 0", Maps.picture(map));
        Checks.due(4, Maps.run(map, "weigh 1 8;attack 2>1;yield 2>1;days 12"));
        Checks.due("day 12; 0 w5 a12; 1 w8 a12 >0; 2 w7 a12; moves; totals 0 0 0", Maps.picture(map));
        Checks.due(3, Maps.run(map, "renew 0;remove 2;claim 0"));
        Checks.due("day 12; 0 w5 a0; 1 w8 a12 >0; moves 0; totals 0 0 0", Maps.picture(map));
        Checks.due(3, Maps.run(map, "reply 1;back;reply 1"));
        Checks.due("day 12; 0 w5 a0; 1 w8 a12 >0; moves 0 1; totals 0 0 0", Maps.picture(map));
        Checks.due(1, Maps.run(map, "end"));
        Checks.due(2, Maps.run(map, "claim 0;end"));
        Checks.due("day 12; 0 w5 a0; 1 w8 a12 >0; moves; totals 2 1 0", Maps.picture(map));
    }

    static void promise57NumbersOfTwoDigits() {
        ArgumentMap map = Maps.of(5, 5);
        Checks.due(4, Maps.run(map, "attack 00>01;weigh 01 7;days 05;days 90"));
        Checks.due("day 95; 0 w5 a90 >1; 1 w7 a90; moves; totals 0 0 0", Maps.picture(map));
        for (int id = 2; id < 12; id++) {
            map.removeArgument(map.addArgument(1));
        }
        Maps.run(map, "add 3;weigh 12 4;attack 12>0");
        Checks.due(4, map.weightOf(12));
        Checks.due(true, map.hasAttack(12, 0));
    }

    static void promise57FifteenCommandsFillTheBuffer() {
        ArgumentMap map = Maps.of(5);
        Checks.due(7, Maps.run(map, "claim 0;end;claim 0;end;claim 0;end;claim 0"));
        Maps.type(map, "end;end;end;end;end;end;end;end;end;end;end;end;end;end;end");
        Checks.refused(IllegalStateException.class, () -> map.run());
        Checks.due(1, map.failedCommand());
        Maps.type(map, "end;end;end;end;end;end;end;end;end;end;end;end;end;end;end;");
        Checks.refused(IllegalArgumentException.class, () -> map.run());
        Checks.due(60, map.errorPosition());
        Checks.due(true, map.isDialogueHeld());
        Checks.due(3, map.dialogueTotal());
    }

    static void promise57AllOrNone() {
        ArgumentMap map = Maps.of(5, 5);
        map.startDialogue(0);
        String before = Maps.picture(map);
        int undoable = map.undoableCount();
        for (String failing : new String[] {"remove 0;add 5;add 6;attack 2>1;days 9;weigh 1 0", "end;claim 1;end;back",
                "remove 0;remove 0", "days 3;days 0", "days 91", "add 0", "attack 0>1;attack 0>1", "attack 1>1",
                "yield 0>1", "renew 2", "claim 0", "reply 1", "back", "end;end", "end;reply 0", "remove 99"}) {
            Maps.type(map, failing);
            Checks.due(IllegalStateException.class, Checks.outcome(() -> map.run()), failing);
            Checks.due(before, Maps.picture(map), failing);
            Checks.due(undoable, map.undoableCount(), failing);
        }
        Checks.due(2, map.addArgument(1), "the next free id is as it was");
        Checks.due(1, map.append('x'), "the buffer is empty");
    }

    static void promise57MalformedRunsNothing() {
        ArgumentMap map = new ArgumentMap();
        Maps.type(map, "add 5;add 5;add x");
        Checks.refused(IllegalArgumentException.class, () -> map.run());
        Checks.due(0, map.argumentCount());
        Maps.type(map, "end;add x");
        Checks.refused(IllegalArgumentException.class, () -> map.run());
        Checks.refused(NoSuchElementException.class, () -> map.failedCommand());
    }

    static void promise58PlacesOfErrors() {
        dueError(0, "");
        dueError(0, " ");
        dueError(0, ";");
        dueError(0, "Add 5");
        dueError(0, "x");
        dueError(1, "ax");
        dueError(2, "ad");
        dueError(2, "at");
        dueError(1, "abb");
        dueError(3, "add");
        dueError(4, "add ");
        dueError(4, "add x");
        dueError(4, "add  5");
        dueError(5, "add 55");
        dueError(5, "add 5 ");
        dueError(6, "add 5;");
        dueError(6, "add 5; add 5");
        dueError(6, "add 5;;");
        dueError(2, "rex 1");
        dueError(3, "ren");
        dueError(3, "remw 1");
        dueError(3, "renove 1");
        dueError(5, "renew1");
        dueError(6, "remove1");
        dueError(5, "reply5");
        dueError(1, "eend");
        dueError(1, "bend");
        dueError(3, "end ");
        dueError(4, "back1");
        dueError(4, "backb");
    }

    static void promise58PlacesOfErrorsInNumbers() {
        dueError(7, "attack ");
        dueError(7, "attack >1");
        dueError(8, "attack 0");
        dueError(8, "attack 0 1");
        dueError(8, "attack 0;");
        dueError(9, "attack 00");
        dueError(9, "attack 000>1");
        dueError(9, "attack 0>");
        dueError(10, "attack 00>");
        dueError(9, "attack 0>;");
        dueError(11, "attack 0>123");
        dueError(7, "yield 0-1");
        dueError(7, "weigh 0");
        dueError(8, "weigh 0 ");
        dueError(7, "weigh 0>5");
        dueError(9, "weigh 0 55");
        dueError(9, "weigh 00 ");
        dueError(7, "days 90 ");
        dueError(7, "days 365");
        dueError(5, "days -1");
        dueError(5, "days ");
        dueError(6, "days 9/");
        dueError(6, "days 9:");
    }

    static void promise58PlaceStaysUntilTheNextError() {
        ArgumentMap map = new ArgumentMap();
        Checks.refused(NoSuchElementException.class, () -> map.errorPosition());
        Maps.run(map, "add 5");
        Checks.refused(NoSuchElementException.class, () -> map.errorPosition());
        Maps.type(map, "add 5;ax");
        Checks.refused(IllegalArgumentException.class, () -> map.run());
        Checks.due(7, map.errorPosition());
        Maps.run(map, "add 5");
        Maps.type(map, "end");
        Checks.refused(IllegalStateException.class, () -> map.run());
        Checks.due(7, map.errorPosition());
        Checks.refused(IllegalArgumentException.class, () -> map.run());
        Checks.due(0, map.errorPosition());
    }

    static void promise59IndexOfTheFailedCommand() {
        ArgumentMap map = new ArgumentMap();
        Checks.refused(NoSuchElementException.class, () -> map.failedCommand());
        Maps.type(map, "add 5;add 5;attack 0>1;attack 0>1;end");
        Checks.refused(IllegalStateException.class, () -> map.run());
        Checks.due(3, map.failedCommand());
        Checks.refused(NoSuchElementException.class, () -> map.errorPosition());
        Maps.run(map, "add 5");
        Checks.due(3, map.failedCommand());
        Maps.type(map, "add");
        Checks.refused(IllegalArgumentException.class, () -> map.run());
        Checks.due(3, map.failedCommand());
        Maps.type(map, "end");
        Checks.refused(IllegalStateException.class, () -> map.run());
        Checks.due(0, map.failedCommand());
        Maps.type(map, "add 0");
        Checks.refused(IllegalStateException.class, () -> map.run());
        Checks.due(0, map.failedCommand());
    }
}
