/** Maps for the tests, and what the tests often do with them. */
final class Maps {
    private Maps() {
    }

    static ArgumentMap of(int... weights) {
        ArgumentMap map = new ArgumentMap();
        for (int weight : weights) {
            map.addArgument(weight);
        }
        return map;
    }

    /** A map of arguments of weight 5 with attacks written as in "0>1 1>0". */
    static ArgumentMap ofEqual(int count, String attacks) {
        int[] weights = new int[count];
        java.util.Arrays.fill(weights, 5);
        ArgumentMap map = of(weights);
        attack(map, attacks);
        return map;
    }

    static void attack(ArgumentMap map, String attacks) {
        for (String attack : attacks.trim().split(" +")) {
            if (!attack.isEmpty()) {
                String[] ends = attack.split(">");
                map.addAttack(Integer.parseInt(ends[0]), Integer.parseInt(ends[1]));
            }
        }
    }

    static void type(ArgumentMap map, String text) {
        for (char character : text.toCharArray()) {
            map.append(character);
        }
    }

    static int run(ArgumentMap map, String program) {
        type(map, program);
        return map.run();
    }

    static String line(ArgumentMap map, int length) {
        StringBuilder line = new StringBuilder();
        for (int index = 0; index < length; index++) {
            line.append(map.lineChar(index));
        }
        return line.toString();
    }

    static String labels(ArgumentMap map) {
        StringBuilder labels = new StringBuilder();
        for (int position = 0; position < map.argumentCount(); position++) {
            labels.append(map.status(map.idAt(position)));
        }
        return labels.toString();
    }

    /** All that changes can change, as far as the face shows it. */
    static String picture(ArgumentMap map) {
        StringBuilder picture = new StringBuilder();
        picture.append("day ").append(map.day());
        for (int from = 0; from < map.argumentCount(); from++) {
            int id = map.idAt(from);
            picture.append("; ").append(id).append(" w").append(map.weightOf(id)).append(" a").append(map.ageOf(id));
            for (int to = 0; to < map.argumentCount(); to++) {
                if (map.hasAttack(id, map.idAt(to))) {
                    picture.append(map.isSuccessful(id, map.idAt(to)) ? " >" : " -").append(map.idAt(to));
                }
            }
        }
        picture.append("; moves");
        for (int move = 0; move < map.moveCount(); move++) {
            picture.append(' ').append(map.moveAt(move));
        }
        picture.append("; totals ").append(map.dialogueTotal()).append(' ').append(map.proponentWins());
        return picture.append(' ').append(map.brokenOffTotal()).toString();
    }
}
