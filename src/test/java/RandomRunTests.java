import java.util.ArrayList;
import java.util.List;
import java.util.Map;
import java.util.Random;
import java.util.function.Supplier;

/** Random runs of calls, with seeds that are always the same, on an ArgumentMap and on a PlainMap. */
final class RandomRunTests {
    private static final int RUNS = 150;
    private static final int CALLS = 500;

    /** A call with at most two numbers. */
    private interface Call {
        Object on(ArgumentMap map, int first, int second);
    }

    private static final Map<String, Call> CHANGES = Map.ofEntries(
            Map.entry("add", (map, first, second) -> map.addArgument(first)),
            Map.entry("remove", (map, first, second) -> map.removeArgument(first)),
            Map.entry("attack", ArgumentMap::addAttack),
            Map.entry("yield", ArgumentMap::removeAttack),
            Map.entry("weigh", ArgumentMap::setWeight),
            Map.entry("renew", (map, first, second) -> map.renew(first)),
            Map.entry("claim", (map, first, second) -> map.startDialogue(first)),
            Map.entry("reply", (map, first, second) -> map.move(first)),
            Map.entry("back", (map, first, second) -> map.takeBack()),
            Map.entry("end", (map, first, second) -> map.endDialogue()),
            Map.entry("days", (map, first, second) -> map.pass(first)));

    private static final Map<String, Call> QUESTIONS = Map.ofEntries(
            Map.entry("day", (map, first, second) -> map.day()),
            Map.entry("argumentCount", (map, first, second) -> map.argumentCount()),
            Map.entry("idAt", (map, first, second) -> map.idAt(first)),
            Map.entry("weightOf", (map, first, second) -> map.weightOf(first)),
            Map.entry("ageOf", (map, first, second) -> map.ageOf(first)),
            Map.entry("strengthOf", (map, first, second) -> map.strengthOf(first)),
            Map.entry("attackCount", (map, first, second) -> map.attackCount()),
            Map.entry("hasAttack", ArgumentMap::hasAttack),
            Map.entry("isSuccessful", ArgumentMap::isSuccessful),
            Map.entry("successfulCount", (map, first, second) -> map.successfulCount()),
            Map.entry("attackerCount", (map, first, second) -> map.attackerCount(first)),
            Map.entry("attackerAt", ArgumentMap::attackerAt),
            Map.entry("argumentByStrength", (map, first, second) -> map.argumentByStrength(first)),
            Map.entry("meanStrength", (map, first, second) -> map.meanStrength()),
            Map.entry("status", (map, first, second) -> map.status(first)),
            Map.entry("roundOf", (map, first, second) -> map.roundOf(first)),
            Map.entry("isAcceptedByGame", (map, first, second) -> map.isAcceptedByGame(first)),
            Map.entry("canOpponentWin", (map, first, second) -> map.canOpponentWin(first)),
            Map.entry("acceptedCount", (map, first, second) -> map.acceptedCount()),
            Map.entry("undecidedCount", (map, first, second) -> map.undecidedCount()),
            Map.entry("acceptedShare", (map, first, second) -> map.acceptedShare()),
            Map.entry("daysUntilChange", (map, first, second) -> map.daysUntilChange()),
            Map.entry("statusAfter", ArgumentMap::statusAfter),
            Map.entry("hasCycle", (map, first, second) -> map.hasCycle()),
            Map.entry("hasCycleBySearch", (map, first, second) -> map.hasCycleBySearch()),
            Map.entry("isConsistent", (map, first, second) -> map.isConsistent()),
            Map.entry("stableCount", (map, first, second) -> map.stableCount()),
            Map.entry("stableCountByLabels", (map, first, second) -> map.stableCountByLabels()),
            Map.entry("preferredCount", (map, first, second) -> map.preferredCount()),
            Map.entry("greatestAdmissible", (map, first, second) -> map.greatestAdmissible()),
            Map.entry("isCredible", (map, first, second) -> map.isCredible(first)),
            Map.entry("isCertain", (map, first, second) -> map.isCertain(first)),
            Map.entry("canStandTogether", ArgumentMap::canStandTogether),
            Map.entry("isDialogueHeld", (map, first, second) -> map.isDialogueHeld()),
            Map.entry("moveCount", (map, first, second) -> map.moveCount()),
            Map.entry("moveAt", (map, first, second) -> map.moveAt(first)),
            Map.entry("canMove", (map, first, second) -> map.canMove(first)),
            Map.entry("dialogueTotal", (map, first, second) -> map.dialogueTotal()),
            Map.entry("proponentWins", (map, first, second) -> map.proponentWins()),
            Map.entry("brokenOffTotal", (map, first, second) -> map.brokenOffTotal()),
            Map.entry("formatArgument", (map, first, second) -> map.formatArgument(first)),
            Map.entry("formatDialogue", (map, first, second) -> map.formatDialogue()),
            Map.entry("lineChar", (map, first, second) -> map.lineChar(first)),
            Map.entry("errorPosition", (map, first, second) -> map.errorPosition()),
            Map.entry("failedCommand", (map, first, second) -> map.failedCommand()),
            Map.entry("undoableCount", (map, first, second) -> map.undoableCount()));

    private static final List<String> QUESTION_NAMES = QUESTIONS.keySet().stream().sorted().toList();
    private static final List<String> CHANGE_NAMES = List.of("add", "add", "remove", "attack", "attack", "attack",
            "attack", "attack", "attack", "yield", "weigh", "renew", "claim", "claim", "reply", "reply", "reply",
            "reply", "reply", "back", "end", "days");
    private static final String[] PATTERNS = {"add D", "add D", "remove N", "attack N>N", "attack N>N", "yield N>N",
        "weigh N D", "renew N", "claim N", "reply N", "reply N", "back", "end", "days N"};

    private final Random random;
    private final ArgumentMap map = new ArgumentMap();
    private final PlainMap plain = new PlainMap();
    private final List<String> calls = new ArrayList<>();

    private RandomRunTests(int seed) {
        random = new Random(seed);
    }

    static void testRandomRuns() {
        for (int seed = 0; seed < RUNS; seed++) {
            new RandomRunTests(seed).go();
        }
    }

    private void go() {
        for (int call = 0; call < CALLS; call++) {
            step();
            for (int question = 0; question < 3; question++) {
                ask();
            }
        }
    }

    private void step() {
        int kind = random.nextInt(40);
        if (kind < 34) {
            change();
        } else if (kind < 36) {
            program();
        } else if (kind < 38) {
            compare("undo()", map::undo, plain::undo);
        } else if (random.nextInt(4) > 0) {
            compare("save()", map::save, plain::save);
        } else {
            compare("restore()", map::restore, plain::restore);
        }
    }

    private void change() {
        String name = CHANGE_NAMES.get(random.nextInt(CHANGE_NAMES.size()));
        int first = switch (name) {
            case "add" -> random.nextInt(20) == 0 ? random.nextInt(14) - 2 : random.nextInt(9) + 1;
            case "days" -> random.nextInt(8) == 0 ? random.nextInt(100) - 4 : random.nextInt(15) + 1;
            case "reply" -> reply();
            default -> id();
        };
        int second = name.equals("weigh") ? random.nextInt(11) : id();
        compare(name + "(" + first + ", " + second + ")",
                () -> CHANGES.get(name).on(map, first, second), () -> plain.change(name, first, second));
    }

    /** Most often the id of an argument, or else a number near one, or far from all. */
    private int id() {
        if (map.argumentCount() > 0 && random.nextInt(25) > 0) {
            return map.idAt(random.nextInt(map.argumentCount()));
        }
        return random.nextInt(4) > 0 ? random.nextInt(12) - 2 : far();
    }

    private int far() {
        int edge = random.nextBoolean() ? Integer.MIN_VALUE : Integer.MAX_VALUE;
        return random.nextBoolean() ? edge : random.nextInt();
    }

    /** Most often an attacker of the last move, as other moves are refused. */
    private int reply() {
        int moves = map.moveCount();
        int attackers = moves == 0 ? 0 : map.attackerCount(map.moveAt(moves - 1));
        if (attackers > 0 && random.nextInt(10) > 0) {
            return map.attackerAt(map.moveAt(moves - 1), random.nextInt(attackers));
        }
        return id();
    }

    private void ask() {
        String name = QUESTION_NAMES.get(random.nextInt(QUESTION_NAMES.size()));
        boolean byPosition = List.of("idAt", "moveAt", "lineChar", "argumentByStrength").contains(name);
        int first = byPosition && random.nextInt(40) > 0 ? random.nextInt(11) - 1 : id();
        int second = switch (name) {
            case "attackerAt" -> random.nextInt(5) - 1;
            case "statusAfter" -> random.nextInt(94) - 1;
            default -> id();
        };
        compare(name + "(" + first + ", " + second + ")",
                () -> QUESTIONS.get(name).on(map, first, second), () -> plain.ask(name, first, second));
    }

    private void program() {
        StringBuilder text = new StringBuilder();
        int commands = random.nextInt(7) + 1;
        for (int command = 0; command < commands; command++) {
            text.append(command > 0 ? ";" : "").append(command());
        }
        while (random.nextInt(3) == 0 && text.length() > 0) {
            spoil(text);
        }
        for (char character : text.toString().toCharArray()) {
            compare("append " + character, () -> map.append(character), () -> plain.append(character));
        }
        if (random.nextInt(20) > 0) {
            compare("run()", map::run, plain::run);
        }
    }

    private String command() {
        String text = PATTERNS[random.nextInt(PATTERNS.length)];
        while (text.indexOf('N') >= 0) {
            int number = Math.max(0, Math.min(99, id()));
            text = text.replaceFirst("N", (random.nextInt(6) == 0 && number < 10 ? "0" : "") + number);
        }
        return text.replace("D", random.nextInt(20) == 0 ? "0" : String.valueOf(random.nextInt(9) + 1));
    }

    private void spoil(StringBuilder text) {
        int index = random.nextInt(text.length());
        switch (random.nextInt(4)) {
            case 0 -> text.deleteCharAt(index);
            case 1 -> text.setCharAt(index, (char) (random.nextInt(97) + 31));
            case 2 -> text.insert(index, text.charAt(random.nextInt(text.length())));
            default -> text.setLength(index);
        }
    }

    private void compare(String call, Supplier<Object> real, Supplier<Object> wanted) {
        calls.add(call);
        Object want = Checks.outcome(wanted);
        Object got = Checks.outcome(real);
        if (!want.equals(got)) {
            throw new AssertionError(call + " answered " + got + ", due is " + want + " after " + calls);
        }
    }
}
