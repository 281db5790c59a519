import java.util.ArrayDeque;
import java.util.ArrayList;
import java.util.Deque;
import java.util.HashSet;
import java.util.List;
import java.util.Map;
import java.util.NoSuchElementException;
import java.util.Set;
import java.util.TreeMap;
import java.util.TreeSet;
import java.util.regex.Matcher;
import java.util.regex.Pattern;
import java.util.stream.Collectors;

/** The document once more, word by word and with the Java library, to compare an ArgumentMap with. */
final class PlainMap {
    private static final String NUMBER = "[0-9][0-9]?";
    private static final String COMMAND = "(add [0-9]|remove N|attack N>N|yield N>N|weigh N [0-9]|renew N|claim N"
            .replace("N", NUMBER) + "|reply N|back|end|days N)".replace("N", NUMBER);
    private static final Pattern PROGRAM = Pattern.compile(COMMAND + "(;" + COMMAND + ")*");

    /** All that changes can change. */
    private static final class World {
        final TreeMap<Integer, int[]> arguments = new TreeMap<>();
        final Set<List<Integer>> attacks = new HashSet<>();
        final List<Integer> moves = new ArrayList<>();
        int nextId;
        int day;
        int ended;
        int won;
        int brokenOff;

        World copy() {
            World copy = new World();
            arguments.forEach((id, values) -> copy.arguments.put(id, values.clone()));
            copy.attacks.addAll(attacks);
            copy.moves.addAll(moves);
            copy.nextId = nextId;
            copy.day = day;
            copy.ended = ended;
            copy.won = won;
            copy.brokenOff = brokenOff;
            return copy;
        }
    }

    private World world = new World();
    private World saved;
    private final Deque<World> before = new ArrayDeque<>();
    private String input = "";
    private String line = "";
    private Integer errorPosition;
    private Integer failedCommand;

    // ---- changes

    Object change(String name, int first, int second) {
        World was = world.copy();
        Object answer = apply(name, first, second);
        keep(was);
        return answer;
    }

    private void keep(World was) {
        before.addLast(was);
        if (before.size() > 8) {
            before.removeFirst();
        }
    }

    private Object apply(String name, int first, int second) {
        return switch (name) {
            case "add" -> add(first);
            case "remove" -> remove(first);
            case "attack" -> attack(first, second);
            case "yield" -> yieldAttack(first, second);
            case "weigh" -> weigh(first, second);
            case "renew" -> renewed(first);
            case "claim" -> claim(first);
            case "reply" -> reply(first);
            case "back" -> back();
            case "end" -> end();
            default -> days(first);
        };
    }

    private int add(int weight) {
        argue(weight >= 1 && weight <= 9);
        allow(world.arguments.size() < 8);
        world.arguments.put(world.nextId, new int[] {weight, 0});
        return world.nextId++;
    }

    private int remove(int id) {
        known(id);
        int attacks = world.attacks.size();
        world.attacks.removeIf(attack -> attack.contains(id));
        world.arguments.remove(id);
        if (world.moves.contains(id)) {
            world.moves.clear();
            world.brokenOff++;
        }
        return attacks - world.attacks.size();
    }

    private int attack(int from, int to) {
        known(from);
        known(to);
        argue(from != to);
        allow(!world.attacks.contains(List.of(from, to)) && world.attacks.size() < 20);
        world.attacks.add(List.of(from, to));
        return world.attacks.size();
    }

    private int yieldAttack(int from, int to) {
        known(from);
        known(to);
        find(world.attacks.remove(List.of(from, to)));
        return world.attacks.size();
    }

    private int weigh(int id, int weight) {
        known(id);
        argue(weight >= 1 && weight <= 9);
        int was = world.arguments.get(id)[0];
        world.arguments.get(id)[0] = weight;
        return was;
    }

    private int renewed(int id) {
        known(id);
        int was = world.arguments.get(id)[1];
        world.arguments.get(id)[1] = 0;
        return was;
    }

    private int claim(int id) {
        known(id);
        allow(world.moves.isEmpty());
        world.moves.add(id);
        return attackers(world, id).size();
    }

    private int reply(int id) {
        find(!world.moves.isEmpty());
        known(id);
        argue(rulesAllow(id));
        allow(world.moves.size() < 12);
        world.moves.add(id);
        return world.moves.size();
    }

    private boolean rulesAllow(int id) {
        int size = world.moves.size();
        if (!attackers(world, world.moves.get(size - 1)).contains(id)) {
            return false;
        }
        for (int position = size - 2; position >= 0 && size % 2 == 0; position -= 2) {
            if (world.moves.get(position) == id) {
                return false;
            }
        }
        return true;
    }

    private int back() {
        find(!world.moves.isEmpty());
        allow(world.moves.size() > 1);
        world.moves.remove(world.moves.size() - 1);
        return world.moves.size();
    }

    private char end() {
        find(!world.moves.isEmpty());
        char winner = world.moves.size() % 2 == 1 ? 'p' : 'o';
        world.moves.clear();
        world.ended++;
        world.won += winner == 'p' ? 1 : 0;
        return winner;
    }

    private int days(int days) {
        argue(days >= 1 && days <= 90);
        Set<List<Integer>> was = successful(world);
        dayByDay(world, days);
        Set<List<Integer>> is = successful(world);
        Set<List<Integer>> both = new HashSet<>(was);
        both.retainAll(is);
        return was.size() + is.size() - 2 * both.size();
    }

    private static void dayByDay(World world, int days) {
        for (int day = 0; day < days; day++) {
            world.day++;
            for (int[] values : world.arguments.values()) {
                values[1] = Math.min(90, values[1] + 1);
            }
        }
    }

    // ---- attacks that succeed, and labels

    private static int strength(World world, int id) {
        int[] values = world.arguments.get(id);
        return Math.max(1, values[0] - values[1] / 10);
    }

    private static Set<List<Integer>> successful(World world) {
        return world.attacks.stream()
                .filter(attack -> strength(world, attack.get(0)) >= strength(world, attack.get(1)))
                .collect(Collectors.toSet());
    }

    private static TreeSet<Integer> attackers(World world, int id) {
        return successful(world).stream()
                .filter(attack -> attack.get(1) == id)
                .map(attack -> attack.get(0))
                .collect(Collectors.toCollection(TreeSet::new));
    }

    /** For each argument with a label, the label and the round. */
    private static Map<Integer, String> labels(World world) {
        Map<Integer, String> labels = new TreeMap<>();
        int size = -1;
        for (int round = 1; size < labels.size(); round++) {
            size = labels.size();
            List<Integer> accepted = new ArrayList<>();
            for (int id : world.arguments.keySet()) {
                if (!labels.containsKey(id) && attackers(world, id).stream().allMatch(
                        attacker -> labels.getOrDefault(attacker, "u").charAt(0) == 'r')) {
                    accepted.add(id);
                }
            }
            for (int id : accepted) {
                labels.put(id, "a" + round);
            }
            for (int id : world.arguments.keySet()) {
                if (!labels.containsKey(id) && attackers(world, id).stream().anyMatch(
                        attacker -> labels.getOrDefault(attacker, "u").charAt(0) == 'a')) {
                    labels.put(id, "r" + round);
                }
            }
        }
        return labels;
    }

    private static char label(World world, int id) {
        return labels(world).getOrDefault(id, "u").charAt(0);
    }

    private static Map<Integer, Character> letters(World world) {
        return world.arguments.keySet().stream().collect(Collectors.toMap(id -> id, id -> label(world, id)));
    }

    // ---- sets

    private static List<Set<Integer>> sets(World world) {
        List<Set<Integer>> sets = new ArrayList<>(List.of(Set.of()));
        for (int id : world.arguments.keySet()) {
            for (Set<Integer> set : List.copyOf(sets)) {
                Set<Integer> greater = new HashSet<>(set);
                greater.add(id);
                sets.add(greater);
            }
        }
        return sets;
    }

    private static boolean isFree(Set<Integer> set, Map<Integer, TreeSet<Integer>> attackers) {
        return set.stream().noneMatch(id -> attackers.get(id).stream().anyMatch(set::contains));
    }

    private static boolean hits(Set<Integer> set, int id, Map<Integer, TreeSet<Integer>> attackers) {
        return attackers.get(id).stream().anyMatch(set::contains);
    }

    private static Map<Integer, TreeSet<Integer>> allAttackers(World world) {
        return world.arguments.keySet().stream().collect(Collectors.toMap(id -> id, id -> attackers(world, id)));
    }

    private List<Set<Integer>> admissible() {
        Map<Integer, TreeSet<Integer>> attackers = allAttackers(world);
        return sets(world).stream()
                .filter(set -> isFree(set, attackers) && set.stream().allMatch(
                        id -> attackers.get(id).stream().allMatch(attacker -> hits(set, attacker, attackers))))
                .toList();
    }

    private List<Set<Integer>> preferred() {
        List<Set<Integer>> admissible = admissible();
        return admissible.stream()
                .filter(set -> admissible.stream().noneMatch(
                        other -> other.size() > set.size() && other.containsAll(set)))
                .toList();
    }

    private int stable() {
        Map<Integer, TreeSet<Integer>> attackers = allAttackers(world);
        return (int) sets(world).stream()
                .filter(set -> isFree(set, attackers) && world.arguments.keySet().stream().allMatch(
                        id -> set.contains(id) || hits(set, id, attackers)))
                .count();
    }

    private boolean cycle() {
        Set<List<Integer>> paths = successful(world);
        for (int middle : world.arguments.keySet()) {
            for (int from : world.arguments.keySet()) {
                for (int to : world.arguments.keySet()) {
                    if (paths.contains(List.of(from, middle)) && paths.contains(List.of(middle, to))) {
                        paths.add(List.of(from, to));
                    }
                }
            }
        }
        return paths.stream().anyMatch(path -> path.get(0).equals(path.get(1)));
    }

    // ---- questions

    /** The answer to the question of this name; first and second are the arguments that it takes, if it does. */
    Object ask(String name, int first, int second) {
        return switch (name) {
            case "day" -> world.day;
            case "argumentCount" -> world.arguments.size();
            case "idAt" -> at(List.copyOf(world.arguments.keySet()), first);
            case "weightOf" -> world.arguments.get(known(first))[0];
            case "ageOf" -> world.arguments.get(known(first))[1];
            case "strengthOf" -> strength(world, known(first));
            case "attackCount" -> world.attacks.size();
            case "hasAttack" -> world.attacks.contains(List.of(known(first), known(second)));
            case "isSuccessful" -> isSuccessful(first, second);
            case "successfulCount" -> successful(world).size();
            case "attackerCount" -> attackers(world, known(first)).size();
            case "attackerAt" -> at(List.copyOf(attackers(world, known(first))), second);
            case "argumentByStrength" -> byStrength(first);
            case "meanStrength" -> mean();
            default -> askOfLabels(name, first, second);
        };
    }

    private Object askOfLabels(String name, int first, int second) {
        return switch (name) {
            case "status" -> label(world, known(first));
            case "roundOf" -> round(first);
            case "isAcceptedByGame" -> label(world, known(first)) == 'a';
            case "canOpponentWin" -> label(world, known(first)) != 'a';
            case "acceptedCount" -> accepted();
            case "undecidedCount" -> world.arguments.size() - labels(world).size();
            case "acceptedShare" -> share();
            case "daysUntilChange" -> daysUntilChange();
            case "statusAfter" -> statusAfter(first, second);
            case "hasCycle", "hasCycleBySearch" -> cycle();
            case "isConsistent" -> true;
            default -> askOfSets(name, first, second);
        };
    }

    private Object askOfSets(String name, int first, int second) {
        return switch (name) {
            case "stableCount", "stableCountByLabels" -> stable();
            case "preferredCount" -> preferred().size();
            case "greatestAdmissible" -> admissible().stream().mapToInt(Set::size).max().getAsInt();
            case "isCredible" -> known(first) >= 0 && preferred().stream().anyMatch(set -> set.contains(first));
            case "isCertain" -> known(first) >= 0 && preferred().stream().allMatch(set -> set.contains(first));
            case "canStandTogether" -> preferred().stream().anyMatch(
                    set -> set.contains(known(first)) & set.contains(known(second)));
            default -> askOfDialogue(name, first);
        };
    }

    private Object askOfDialogue(String name, int first) {
        return switch (name) {
            case "isDialogueHeld" -> !world.moves.isEmpty();
            case "moveCount" -> world.moves.size();
            case "moveAt" -> at(world.moves, first);
            case "canMove" -> canMove(first);
            case "dialogueTotal" -> world.ended;
            case "proponentWins" -> world.won;
            case "brokenOffTotal" -> world.brokenOff;
            default -> askOfRest(name, first);
        };
    }

    private Object askOfRest(String name, int first) {
        return switch (name) {
            case "formatArgument" -> formatArgument(first);
            case "formatDialogue" -> formatDialogue();
            case "lineChar" -> at(line.chars().mapToObj(character -> (char) character).toList(), first);
            case "errorPosition" -> found(errorPosition);
            case "failedCommand" -> found(failedCommand);
            case "undoableCount" -> before.size();
            default -> throw new AssertionError(name);
        };
    }

    private boolean isSuccessful(int from, int to) {
        List<Integer> attack = List.of(known(from), known(to));
        find(world.attacks.contains(attack));
        return successful(world).contains(attack);
    }

    private int byStrength(int rank) {
        List<Integer> ids = new ArrayList<>(world.arguments.keySet());
        ids.sort((one, other) -> {
            int byStrength = strength(world, other) - strength(world, one);
            return byStrength != 0 ? byStrength : attackers(world, one).size() - attackers(world, other).size();
        });
        find(rank >= 0 && rank < ids.size());
        return ids.get(rank);
    }

    private double mean() {
        divide();
        return (double) world.arguments.keySet().stream().mapToInt(id -> strength(world, id)).sum()
                / world.arguments.size();
    }

    private float share() {
        divide();
        return (float) accepted() / world.arguments.size();
    }

    private int accepted() {
        return (int) labels(world).values().stream().filter(label -> label.charAt(0) == 'a').count();
    }

    private int round(int id) {
        String label = labels(world).get(known(id));
        find(label != null);
        return Integer.parseInt(label.substring(1));
    }

    private int daysUntilChange() {
        World later = world.copy();
        for (int days = 1; days <= 90; days++) {
            dayByDay(later, 1);
            if (!letters(later).equals(letters(world))) {
                return days;
            }
        }
        throw new NoSuchElementException();
    }

    private char statusAfter(int id, int days) {
        known(id);
        argue(days >= 0 && days <= 90);
        World later = world.copy();
        dayByDay(later, days);
        return label(later, id);
    }

    private boolean canMove(int id) {
        find(!world.moves.isEmpty());
        known(id);
        return rulesAllow(id) && world.moves.size() < 12;
    }

    private int formatArgument(int id) {
        known(id);
        line = id + "(" + strength(world, id) + "/" + world.arguments.get(id)[0] + ")" + label(world, id);
        attackers(world, id).forEach(attacker -> line += "<" + attacker);
        return line.length();
    }

    private int formatDialogue() {
        find(!world.moves.isEmpty());
        List<String> moves = new ArrayList<>();
        for (int id : world.moves) {
            moves.add((moves.size() % 2 == 0 ? "p" : "o") + id);
        }
        line = String.join(" ", moves);
        return line.length();
    }

    // ---- programs, undo, save

    int append(char character) {
        argue(character >= ' ' && character <= '~');
        allow(input.length() < 60);
        input += character;
        return input.length();
    }

    int run() {
        String program = input;
        input = "";
        if (!isWellFormed(program)) {
            errorPosition = errorPositionOf(program);
            argue(false);
        }
        World was = world.copy();
        String[] commands = program.split(";");
        for (int index = 0; index < commands.length; index++) {
            try {
                execute(commands[index]);
            } catch (RuntimeException refused) {
                world = was;
                failedCommand = index;
                allow(false);
            }
        }
        keep(was);
        return commands.length;
    }

    static boolean isWellFormed(String program) {
        return PROGRAM.matcher(program).matches();
    }

    /** The error position of a malformed program. */
    static int errorPositionOf(String program) {
        for (int length = program.length(); length > 0; length--) {
            Matcher matcher = PROGRAM.matcher(program.substring(0, length));
            if (matcher.matches() || matcher.hitEnd()) {
                return length;
            }
        }
        return 0;
    }

    private void execute(String command) {
        String[] words = command.split("[ >]");
        int first = words.length > 1 ? Integer.parseInt(words[1]) : 0;
        int second = words.length > 2 ? Integer.parseInt(words[2]) : 0;
        apply(words[0], first, second);
    }

    int undo() {
        allow(!before.isEmpty());
        world = before.removeLast();
        return before.size();
    }

    int save() {
        saved = world.copy();
        return world.arguments.size();
    }

    int restore() {
        allow(saved != null);
        world = saved.copy();
        before.clear();
        return world.arguments.size();
    }

    // ---- refusals

    private int known(int id) {
        find(world.arguments.containsKey(id));
        return id;
    }

    private static <T> T found(T value) {
        find(value != null);
        return value;
    }

    private static <T> T at(List<T> list, int position) {
        if (position < 0 || position >= list.size()) {
            throw new IndexOutOfBoundsException();
        }
        return list.get(position);
    }

    private void divide() {
        if (world.arguments.isEmpty()) {
            throw new ArithmeticException();
        }
    }

    private static void find(boolean found) {
        if (!found) {
            throw new NoSuchElementException();
        }
    }

    private static void argue(boolean fits) {
        if (!fits) {
            throw new IllegalArgumentException();
        }
    }

    private static void allow(boolean allowed) {
        if (!allowed) {
            throw new IllegalStateException();
        }
    }
}
