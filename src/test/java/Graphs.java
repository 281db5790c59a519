import java.util.function.BiConsumer;

/**
 * Small maps of equally strong arguments with every set of attacks, and the terms of the document told of them word by
 * word. A set of arguments is an int with one bit an id; attacks[from] is the set of those that from attacks.
 */
final class Graphs {
    private Graphs() {
    }

    /** Visits the maps of this many arguments, at most 4, with all sets of attacks. */
    static void visit(int count, BiConsumer<ArgumentMap, int[]> visitor) {
        int pairs = count * (count - 1);
        for (int chosen = 0; chosen < 1 << pairs; chosen++) {
            int[] attacks = new int[count];
            ArgumentMap map = Maps.ofEqual(count, "");
            for (int pair = 0; pair < pairs; pair++) {
                int from = pair / (count - 1);
                int other = pair % (count - 1);
                int to = other < from ? other : other + 1;
                if (has(chosen, pair)) {
                    attacks[from] |= 1 << to;
                    map.addAttack(from, to);
                }
            }
            visitor.accept(map, attacks);
        }
    }

    static boolean has(int set, int id) {
        return (set >> id & 1) != 0;
    }

    static boolean isFree(int[] attacks, int set) {
        for (int id = 0; id < attacks.length; id++) {
            if (has(set, id) && (attacks[id] & set) != 0) {
                return false;
            }
        }
        return true;
    }

    static boolean isAttackedFrom(int[] attacks, int id, int set) {
        for (int from = 0; from < attacks.length; from++) {
            if (has(set, from) && has(attacks[from], id)) {
                return true;
            }
        }
        return false;
    }

    static boolean isAdmissible(int[] attacks, int set) {
        for (int attacker = 0; attacker < attacks.length; attacker++) {
            if ((attacks[attacker] & set) != 0 && !isAttackedFrom(attacks, attacker, set)) {
                return false;
            }
        }
        return isFree(attacks, set);
    }

    static boolean isPreferred(int[] attacks, int set) {
        for (int other = 0; other < 1 << attacks.length; other++) {
            if (other != set && (other & set) == set && isAdmissible(attacks, other)) {
                return false;
            }
        }
        return isAdmissible(attacks, set);
    }

    static boolean isStable(int[] attacks, int set) {
        for (int id = 0; id < attacks.length; id++) {
            if (!has(set, id) && !isAttackedFrom(attacks, id, set)) {
                return false;
            }
        }
        return isFree(attacks, set);
    }

    /** Whether the proponent wins from here on, who has just moved this argument, and all those of the set so far. */
    static boolean isWon(int[] attacks, int last, int moved) {
        for (int reply = 0; reply < attacks.length; reply++) {
            if (has(attacks[reply], last) && !isAnswered(attacks, reply, moved)) {
                return false;
            }
        }
        return true;
    }

    private static boolean isAnswered(int[] attacks, int reply, int moved) {
        for (int answer = 0; answer < attacks.length; answer++) {
            if (has(attacks[answer], reply) && !has(moved, answer) && isWon(attacks, answer, moved | 1 << answer)) {
                return true;
            }
        }
        return false;
    }

    /** Whether attacks lead from this argument to that one, in at most so many steps. */
    static boolean leads(int[] attacks, int from, int to, int steps) {
        for (int next = 0; next < attacks.length && steps > 0; next++) {
            if (has(attacks[from], next) && (next == to || leads(attacks, next, to, steps - 1))) {
                return true;
            }
        }
        return false;
    }
}
