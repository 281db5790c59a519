/** The section "Terms" on acceptance, the game and extensions. */
final class AcceptanceTermTests {
    private AcceptanceTermTests() {
    }

    private static int accepted(ArgumentMap map) {
        int accepted = 0;
        for (int id = 0; id < map.argumentCount(); id++) {
            accepted |= map.status(id) == 'a' ? 1 << id : 0;
        }
        return accepted;
    }

    @Says("No two accepted arguments attack each other successfully.")
    static void termsAcceptedArgumentsDoNotAttackEachOther() {
        Graphs.visit(3, (map, attacks) -> Checks.due(true, Graphs.isFree(attacks, accepted(map))));
        Graphs.visit(4, (map, attacks) -> Checks.due(true, Graphs.isFree(attacks, accepted(map))));
    }

    private static void dueLabels(String labels, String rounds, ArgumentMap map) {
        Checks.due(labels, Maps.labels(map));
        StringBuilder got = new StringBuilder();
        for (int id = 0; id < map.argumentCount(); id++) {
            got.append(map.status(id) == 'u' ? "-" : String.valueOf(map.roundOf(id)));
        }
        Checks.due(rounds, got.toString(), "rounds");
    }

    // ---- acceptance

    @Says({"Labels are given to the arguments in rounds.",
        "In each round, first every argument without a label all of whose attackers are rejected, or which has no "
            + "attackers, is found, and all that are found become accepted at once;"})
    static void termsAllThatAreFoundBecomeAcceptedAtOnce() {
        dueLabels("a", "1", Maps.of(5));
        dueLabels("aaaaaaaa", "11111111", Maps.ofEqual(8, ""));
        dueLabels("arar", "1122", Maps.ofEqual(4, "0>1 1>2 2>3"));
        dueLabels("rara", "2211", Maps.ofEqual(4, "3>2 2>1 1>0"));
        dueLabels("raaar", "12112", Maps.ofEqual(5, "2>0 3>0 0>1 1>4"));
        dueLabels("aarra", "11112", Maps.ofEqual(5, "0>2 1>3 2>4 3>4"));
        dueLabels("aruu", "11--", Maps.ofEqual(4, "0>1 1>2 3>2 2>3"));
    }

    @Says("then every argument without a label that has an accepted attacker becomes rejected.")
    static void termsRejectedInTheRoundOfTheAttacker() {
        dueLabels("ar", "11", Maps.ofEqual(2, "0>1"));
        dueLabels("ra", "11", Maps.ofEqual(2, "1>0"));
        dueLabels("ara", "112", Maps.ofEqual(3, "0>1 1>2"));
        dueLabels("arr", "111", Maps.ofEqual(3, "0>1 0>2 1>2 2>1"));
        dueLabels("arr", "111", Maps.ofEqual(3, "0>1 1>2 0>2"));
        dueLabels("arararar", "11223341", Maps.ofEqual(8, "0>1 1>2 2>3 3>4 4>5 5>6 6>7 0>7"));
    }

    @Says("The rounds are numbered from 1, and end when a round gives no label.")
    static void termsRoundsAreNumberedFromOne() {
        dueLabels("arararar", "11223344", Maps.ofEqual(8, "0>1 1>2 2>3 3>4 4>5 5>6 6>7"));
        dueLabels("rararara", "44332211", Maps.ofEqual(8, "7>6 6>5 5>4 4>3 3>2 2>1 1>0"));
        dueLabels("uuuuuuuu", "--------", Maps.ofEqual(8, "0>1 1>2 2>3 3>4 4>5 5>6 6>7 7>0"));
        dueLabels("aruuuuuu", "11------", Maps.ofEqual(8, "0>1 1>2 2>3 3>4 4>5 5>6 6>7 7>2"));
        dueLabels("", "", new ArgumentMap());
    }

    @Says("Arguments that have no label then are undecided.")
    static void termsUndecidedOnes() {
        dueLabels("uu", "--", Maps.ofEqual(2, "0>1 1>0"));
        dueLabels("uuu", "---", Maps.ofEqual(3, "0>1 1>0 1>2"));
        dueLabels("auu", "1--", Maps.ofEqual(3, "1>2 2>1"));
        Checks.due(2, Maps.ofEqual(3, "1>2 2>1").undecidedCount());
        Graphs.visit(3, (map, attacks) -> Checks.due(3 - (int) Maps.labels(map).chars()
                .filter(label -> label != 'u').count(), map.undecidedCount()));
    }

    // ---- the game

    @Says({"A game about an argument is played by a proponent, who begins with this argument, and an opponent.",
        "They move in turns: each move is an attacker of the argument that was moved just before."})
    static void termsMovesOfTheGame() {
        Checks.due(true, Maps.ofEqual(1, "").isAcceptedByGame(0));
        Checks.due(true, Maps.ofEqual(2, "0>1").isAcceptedByGame(0), "what it attacks is no move");
        Checks.due(false, Maps.ofEqual(2, "0>1").isAcceptedByGame(1));
        Checks.due(true, Maps.ofEqual(3, "0>1 1>2").isAcceptedByGame(2));
        Checks.due(false, Maps.ofEqual(4, "0>1 1>3 2>3").isAcceptedByGame(3), "no answer to 2");
    }

    @Says("The proponent must not move an argument that the proponent has moved before in this game.")
    static void termsTheProponentMustNotRepeat() {
        Checks.due(false, Maps.ofEqual(2, "0>1 1>0").isAcceptedByGame(0));
        Checks.due(false, Maps.ofEqual(4, "0>1 1>2 2>3 3>0").isAcceptedByGame(0));
        Checks.due(true, Maps.ofEqual(3, "0>1 1>0 2>1").isAcceptedByGame(0));
        Checks.due(false, Maps.ofEqual(3, "0>1 1>2 2>0").isAcceptedByGame(0), "the opponent may move 1 and 0 and 2");
    }

    @Says("Who cannot move loses.")
    static void termsWhoCannotMoveLoses() {
        Checks.due(true, Maps.of(5).isAcceptedByGame(0), "the opponent cannot move");
        Checks.due(false, Maps.of(5).canOpponentWin(0));
        Checks.due(false, Maps.ofEqual(2, "1>0").isAcceptedByGame(0), "the proponent cannot move");
        Checks.due(true, Maps.ofEqual(2, "1>0").canOpponentWin(0));
        ArgumentMap chain = Maps.ofEqual(8, "1>0 2>1 3>2 4>3 5>4 6>5 7>6");
        for (int id = 0; id < 8; id++) {
            Checks.due(id % 2 == 1, chain.isAcceptedByGame(id));
        }
    }

    @Says("The proponent can always win the game about an argument if and only if the argument is accepted.")
    static void termsTheGameTellsWhatIsAccepted() {
        for (int count = 1; count <= 4; count++) {
            Graphs.visit(count, (map, attacks) -> {
                for (int id = 0; id < attacks.length; id++) {
                    boolean won = Graphs.isWon(attacks, id, 1 << id);
                    Checks.due(won, map.isAcceptedByGame(id));
                    Checks.due(!won, map.canOpponentWin(id));
                    Checks.due(won, map.status(id) == 'a');
                }
            });
        }
    }

    // ---- extensions

    @Says("A set of arguments is free of conflicts if no argument of it is an attacker of another one of it.")
    static void termsFreeOfConflicts() {
        Checks.due(1, Maps.ofEqual(2, "0>1 1>0").greatestAdmissible());
        Checks.due(2, Maps.ofEqual(2, "0>1 1>0").stableCount());
        Checks.due(1, Maps.ofEqual(2, "0>1").stableCount());
        Checks.due(1, Maps.ofEqual(2, "0>1").stableCountByLabels());
        Checks.due(false, Maps.ofEqual(3, "0>1 1>0").canStandTogether(0, 1));
        Checks.due(4, Maps.ofEqual(8, "0>1 1>0 2>3 3>2 4>5 5>4 6>7 7>6").greatestAdmissible());
    }

    @Says("It is admissible if it is free of conflicts, and for each attacker of each of its arguments, it has an "
            + "attacker of that attacker.")
    static void termsAdmissible() {
        for (int count = 1; count <= 4; count++) {
            Graphs.visit(count, (map, attacks) -> {
                int greatest = 0;
                for (int set = 0; set < 1 << attacks.length; set++) {
                    greatest = Graphs.isAdmissible(attacks, set) ? Math.max(greatest, Integer.bitCount(set)) : greatest;
                }
                Checks.due(greatest, map.greatestAdmissible());
            });
        }
    }

    @Says("It is preferred if it is admissible and no admissible set has all its arguments and others.")
    static void termsPreferred() {
        for (int count = 1; count <= 4; count++) {
            Graphs.visit(count, (map, attacks) -> {
                int sets = 0;
                for (int set = 0; set < 1 << attacks.length; set++) {
                    sets += Graphs.isPreferred(attacks, set) ? 1 : 0;
                }
                Checks.due(sets, map.preferredCount());
            });
        }
    }

    @Says("It is stable if it is free of conflicts, and each argument outside of it has an attacker in it.")
    static void termsStable() {
        for (int count = 1; count <= 4; count++) {
            Graphs.visit(count, (map, attacks) -> {
                int sets = 0;
                for (int set = 0; set < 1 << attacks.length; set++) {
                    sets += Graphs.isStable(attacks, set) ? 1 : 0;
                }
                Checks.due(sets, map.stableCount());
                Checks.due(sets, map.stableCountByLabels());
            });
        }
    }
}
