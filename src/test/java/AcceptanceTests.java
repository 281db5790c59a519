import java.util.NoSuchElementException;
import java.util.Random;

/** Promises 25 to 30, 38, 39 and 52: labels, the game, cycles, and whether the ways to tell agree. */
final class AcceptanceTests {
    /** A ladder of attacks 0>1>2>..>7, where every other argument is accepted. */
    private static final String CHAIN = "0>1 1>2 2>3 3>4 4>5 5>6 6>7";

    private AcceptanceTests() {
    }

    @Says("Returns the label of an argument.")
    static void promise25LabelsAlongAChain() {
        Checks.due("arararar", Maps.labels(Maps.ofEqual(8, CHAIN)));
    }

    @Says("Returns 'a' if it is accepted, 'r' if it is rejected, 'u' if it is undecided.")
    static void promise25CyclesAreUndecided() {
        Checks.due("uu", Maps.labels(Maps.ofEqual(2, "0>1 1>0")));
        Checks.due("uuu", Maps.labels(Maps.ofEqual(3, "0>1 1>2 2>0")));
        Checks.due("uuuu", Maps.labels(Maps.ofEqual(4, "0>1 1>0 0>2 1>2 2>3")));
        Checks.due("aruu", Maps.labels(Maps.ofEqual(4, "0>1 1>2 2>3 3>2")));
        Checks.due("arar", Maps.labels(Maps.ofEqual(4, "0>1 1>2 2>3 3>1")));
    }

    static void promise25OnlySuccessfulAttacksMatter() {
        ArgumentMap map = Maps.of(5, 6);
        map.addAttack(0, 1);
        Checks.due("aa", Maps.labels(map));
        map.setWeight(0, 6);
        Checks.due("ar", Maps.labels(map));
        map.addAttack(1, 0);
        Checks.due("uu", Maps.labels(map));
        map.setWeight(1, 7);
        Checks.due("ra", Maps.labels(map));
        Checks.refused(NoSuchElementException.class, () -> map.status(2));
        Checks.refused(NoSuchElementException.class, () -> map.status(-1));
    }

    @Says("Returns the number of the round in which an argument gets its label.")
    static void promise26RoundsAlongAChain() {
        ArgumentMap map = Maps.ofEqual(8, CHAIN);
        for (int id = 0; id < 8; id++) {
            Checks.due(id / 2 + 1, map.roundOf(id));
        }
    }

    static void promise26AllOfARoundAtOnce() {
        ArgumentMap map = Maps.ofEqual(5, "3>2 2>1 1>0 4>0");
        Checks.due("rarar".length(), map.argumentCount());
        Checks.due(1, map.roundOf(3));
        Checks.due(1, map.roundOf(4));
        Checks.due(1, map.roundOf(2));
        Checks.due(1, map.roundOf(0));
        Checks.due(2, map.roundOf(1));
    }

    static void promise26UndecidedHaveNoRound() {
        ArgumentMap map = Maps.ofEqual(4, "0>1 1>2 2>3 3>2");
        Checks.due(1, map.roundOf(1));
        Checks.refused(NoSuchElementException.class, () -> map.roundOf(2));
        Checks.refused(NoSuchElementException.class, () -> map.roundOf(4));
        map.removeAttack(3, 2);
        Checks.due(2, map.roundOf(2));
        map.addAttack(3, 2);
        Checks.refused(NoSuchElementException.class, () -> map.roundOf(2));
    }

    static void promise27GameAlongAChain() {
        ArgumentMap map = Maps.ofEqual(8, CHAIN);
        for (int id = 0; id < 8; id++) {
            Checks.due(id % 2 == 0, map.isAcceptedByGame(id));
        }
        Checks.refused(NoSuchElementException.class, () -> map.isAcceptedByGame(8));
    }

    static void promise27TheProponentCannotGoRoundACycle() {
        ArgumentMap map = Maps.ofEqual(4, "0>1 1>2 2>3 3>0");
        for (int id = 0; id < 4; id++) {
            Checks.due(false, map.isAcceptedByGame(id));
        }
        map.addArgument(5);
        map.addAttack(4, 3);
        Checks.due(true, map.isAcceptedByGame(0));
        Checks.due(false, map.isAcceptedByGame(1));
        Checks.due(true, map.isAcceptedByGame(2));
    }

    @Says("Returns whether an argument is accepted, by searching whether the proponent can always win the game "
            + "about it.")
    static void promise27TheProponentNeedsAnAnswerToEachMove() {
        ArgumentMap map = Maps.ofEqual(5, "1>0 2>0 3>1");
        Checks.due(false, map.isAcceptedByGame(0));
        map.addAttack(4, 2);
        Checks.due(true, map.isAcceptedByGame(0));
        map.setWeight(4, 4);
        Checks.due(false, map.isAcceptedByGame(0));
    }

    static void promise27TheProponentMayChoose() {
        Checks.due(true, Maps.ofEqual(5, "1>0 2>1 3>1 4>2").isAcceptedByGame(0));
    }

    static void promise27OneAnswerForTwoMoves() {
        Checks.due(true, Maps.ofEqual(4, "1>0 2>0 3>1 3>2").isAcceptedByGame(0));
        Checks.due(false, Maps.ofEqual(6, "1>0 2>0 3>1 4>1 3>2 5>3").isAcceptedByGame(0));
        Checks.due(true, Maps.ofEqual(7, "1>0 2>0 3>1 4>1 3>2 5>3 6>5").isAcceptedByGame(0));
    }

    /** 2 after 3 is lost, as 3 alone answers 7 and has been moved; 3 after 2 is won, as 4 answers 6 too. */
    static void promise27TheOrderOfTheProponentsMovesMatters() {
        ArgumentMap map = Maps.ofEqual(8, "1>0 5>0 3>1 2>5 6>3 2>6 4>6 7>2 3>7");
        for (int id : new int[] {0, 2, 3, 4}) {
            Checks.due(true, map.isAcceptedByGame(id), "game about " + id);
        }
        for (int id : new int[] {1, 5, 6, 7}) {
            Checks.due(false, map.isAcceptedByGame(id), "game about " + id);
        }
    }

    /** Maps of 8 arguments and up to 20 attacks against a search that remembers nothing. */
    static void promise27GamesOnGreatMaps() {
        Random random = new Random(27);
        for (int game = 0; game < 3000; game++) {
            ArgumentMap map = Maps.ofEqual(8, "");
            int[] attacks = new int[8];
            int wanted = 6 + random.nextInt(15);
            while (map.attackCount() < wanted) {
                int from = random.nextInt(8);
                int to = (from + 1 + random.nextInt(7)) % 8;
                if (!map.hasAttack(from, to)) {
                    map.addAttack(from, to);
                    attacks[from] |= 1 << to;
                }
            }
            for (int id = 0; id < 8; id++) {
                Checks.due(Graphs.isWon(attacks, id, 1 << id), map.isAcceptedByGame(id), "game about " + id);
            }
        }
    }

    /** All that 8 arguments and 20 attacks can make of the game at its longest. */
    static void promise27LongGames() {
        ArgumentMap map = Maps.ofEqual(8, "0>1 1>0 1>2 2>1 2>3 3>2 3>4 4>3 4>5 5>4 5>6 6>5 6>7 7>6 7>0 0>7");
        Maps.attack(map, "0>4 4>0 2>6 6>2");
        for (int id = 0; id < 8; id++) {
            Checks.due(false, map.isAcceptedByGame(id));
        }
        map.removeAttack(1, 0);
        map.removeAttack(7, 0);
        map.removeAttack(4, 0);
        for (int id = 0; id < 8; id++) {
            Checks.due(map.status(id) == 'a', map.isAcceptedByGame(id));
        }
        Checks.due(true, map.isAcceptedByGame(0));
    }

    @Says("Returns whether the opponent can always win the game about an argument: whether the proponent cannot.")
    static void promise28OpponentWinsWhereTheProponentDoesNot() {
        ArgumentMap map = Maps.ofEqual(4, "0>1 1>2 2>3 3>2");
        Checks.due(false, map.canOpponentWin(0));
        Checks.due(true, map.canOpponentWin(1));
        Checks.due(true, map.canOpponentWin(2), "undecided");
        Checks.refused(NoSuchElementException.class, () -> map.canOpponentWin(4));
    }

    static void promise29AcceptedAreCounted() {
        Checks.due(0, new ArgumentMap().acceptedCount());
        Checks.due(4, Maps.ofEqual(8, CHAIN).acceptedCount());
        Checks.due(1, Maps.ofEqual(4, "0>1 1>2 2>3 3>2").acceptedCount());
        Checks.due(0, Maps.ofEqual(3, "0>1 1>2 2>0").acceptedCount());
    }

    static void promise30UndecidedAreCounted() {
        Checks.due(0, new ArgumentMap().undecidedCount());
        Checks.due(0, Maps.ofEqual(8, CHAIN).undecidedCount());
        Checks.due(2, Maps.ofEqual(4, "0>1 1>2 2>3 3>2").undecidedCount());
        Checks.due(3, Maps.ofEqual(3, "0>1 1>2 2>0").undecidedCount());
    }

    private static void dueCycle(boolean want, ArgumentMap map) {
        Checks.due(want, map.hasCycle(), "hasCycle");
        Checks.due(want, map.hasCycleBySearch(), "hasCycleBySearch");
    }

    private static void cycles() {
        dueCycle(false, new ArgumentMap());
        dueCycle(false, Maps.of(1));
        dueCycle(false, Maps.ofEqual(8, CHAIN));
        dueCycle(true, Maps.ofEqual(8, CHAIN + " 7>0"));
        dueCycle(true, Maps.ofEqual(8, CHAIN + " 7>6"));
        dueCycle(false, Maps.ofEqual(4, "0>1 0>2 1>3 2>3"));
        dueCycle(true, Maps.ofEqual(2, "0>1 1>0"));
        dueCycle(true, Maps.ofEqual(8, "5>6 6>7 7>5"));
        dueCycle(false, Maps.ofEqual(8, "7>6 6>5 5>4 4>3 3>2 2>1 1>0"));
    }

    private static void cyclesOfSuccessfulAttacks() {
        ArgumentMap map = Maps.of(5, 6, 7);
        Maps.attack(map, "0>1 1>2 2>0");
        dueCycle(false, map);
        map.setWeight(0, 7);
        dueCycle(false, map);
        map.setWeight(1, 7);
        dueCycle(true, map);
    }

    static void promise38CyclesByTakingAway() {
        cycles();
        cyclesOfSuccessfulAttacks();
    }

    static void promise39CyclesBySearch() {
        cycles();
        cyclesOfSuccessfulAttacks();
    }

    static void promise52MapsAreConsistent() {
        Checks.due(true, new ArgumentMap().isConsistent());
        Checks.due(true, Maps.ofEqual(8, CHAIN).isConsistent());
        Checks.due(true, Maps.ofEqual(8, CHAIN + " 7>0").isConsistent());
        Checks.due(true, Maps.ofEqual(3, "0>1 1>2 2>0").isConsistent());
        Checks.due(true, Maps.ofEqual(4, "0>1 1>2 2>3 3>2").isConsistent());
    }
}
