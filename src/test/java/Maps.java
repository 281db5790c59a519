/** Maps for the tests, and what the tests often do with them. */
final class Maps {
    private Maps() {
    }

    static ArgumentMap of(int... weights) {
        ArgumentMap map = new ArgumentMap();
        for (int weight : weights) {
            map.addArgument(weight);
        }
        return map;
    }

    /** A map of arguments of weight 5 with attacks written as in "0>1 1>0". */
    static ArgumentMap ofEqual(int count, String attacks) {
        int[] weights = new int[count];
        java.util.Arrays.fill(weights, 5);
        ArgumentMap map = of(weights);
        attack(map, attacks);
        return map;
    }

    static void attack(ArgumentMap map, String attacks) {
        for (String attack : attacks.trim().split(" +")) {
            if (!attack.isEmpty()) {
                String[] ends = attack.split(">");
                map.addAttack(Integer.parseInt(ends[0]), Integer.parseInt(ends[1]));
            }
        }
    }

    static void type(ArgumentMap map, String text) {
        for (char character : text.toCharArray()) {
            map.append(character);
        }
    }

    static ArgumentMap typed(ArgumentMap map, String text) {
        type(map, text);
        return map;
    }

    static int run(ArgumentMap map, String program) {
        type(map, program);
        return map.run();
    }

    /** The whole line, up to the index at which it ends. */
    static String line(ArgumentMap map) {
        StringBuilder line = new StringBuilder();
        while (Checks.outcome(() -> map.lineChar(line.length())) instanceof Character next) {
            line.append(next);
        }
        return line.toString();
    }

    static String line(ArgumentMap map, int length) {
        StringBuilder line = new StringBuilder();
        for (int index = 0; index < length; index++) {
            line.append(map.lineChar(index));
        }
        return line.toString();
    }

    static String labels(ArgumentMap map) {
        StringBuilder labels = new StringBuilder();
        for (int position = 0; position < map.argumentCount(); position++) {
            labels.append(map.status(map.idAt(position)));
        }
        return labels.toString();
    }

    /** A map with something of everything: gone and fading arguments, a dialogue, a line, a copy, changes to undo. */
    static ArgumentMap rich() {
        ArgumentMap map = of(5, 6, 7, 5);
        attack(map, "1>0 2>1 0>2 3>0");
        map.save();
        type(map, "add 5;ax");
        Checks.refused(IllegalArgumentException.class, map::run);
        type(map, "renew 1;back");
        Checks.refused(IllegalStateException.class, map::run);
        map.removeArgument(3);
        map.pass(3);
        map.startDialogue(0);
        map.move(1);
        map.formatArgument(0);
        type(map, "renew ");
        return map;
    }

    /** The same without a dialogue. */
    static ArgumentMap quiet() {
        ArgumentMap map = rich();
        map.endDialogue();
        return map;
    }

    /** A dialogue with all its 12 moves: 0 answers 1, 2, .. 6 in turn; 7 attacks 0, and has not been moved. */
    static ArgumentMap fullDialogue() {
        ArgumentMap map = ofEqual(8, "0>1 1>0 0>2 2>0 0>3 3>0 0>4 4>0 0>5 5>0 0>6 6>0 7>0");
        map.startDialogue(1);
        for (int proponents = 2; proponents <= 6; proponents++) {
            map.move(0);
            map.move(proponents);
        }
        map.move(0);
        return map;
    }

    /** Twenty attacks between six arguments: of 0 to 3 on all others. */
    static ArgumentMap fullOfAttacks() {
        return fullOfAttacks(5, 5, 5, 5, 5, 5);
    }

    static ArgumentMap fullOfAttacks(int... weights) {
        ArgumentMap map = of(weights);
        for (int attack = 0; attack < 24; attack++) {
            if (attack / 6 != attack % 6) {
                map.addAttack(attack / 6, attack % 6);
            }
        }
        return map;
    }

    /** All that changes can change, as far as the face shows it. */
    static String picture(ArgumentMap map) {
        StringBuilder picture = new StringBuilder();
        picture.append("day ").append(map.day());
        for (int from = 0; from < map.argumentCount(); from++) {
            int id = map.idAt(from);
            picture.append("; ").append(id).append(" w").append(map.weightOf(id)).append(" a").append(map.ageOf(id));
            for (int to = 0; to < map.argumentCount(); to++) {
                if (map.hasAttack(id, map.idAt(to))) {
                    picture.append(map.isSuccessful(id, map.idAt(to)) ? " >" : " -").append(map.idAt(to));
                }
            }
        }
        picture.append("; moves");
        for (int move = 0; move < map.moveCount(); move++) {
            picture.append(' ').append(map.moveAt(move));
        }
        picture.append("; totals ").append(map.dialogueTotal()).append(' ').append(map.proponentWins());
        return picture.append(' ').append(map.brokenOffTotal()).toString();
    }
}
