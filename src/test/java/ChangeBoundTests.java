/** What promises 1 to 12 name as bounds of what changes answer: the least, the greatest, none and all. */
final class ChangeBoundTests {
    private ChangeBoundTests() {
    }

    @Says("Creates a map without arguments, attacks and dialogue, on day 0.")
    static void promise01NothingIsThere() {
        ArgumentMap map = new ArgumentMap();
        Checks.due(0, map.day());
        Checks.due(0, map.argumentCount());
        Checks.due(0, map.attackCount());
        Checks.due(0, map.successfulCount());
        Checks.due(0, map.acceptedCount());
        Checks.due(0, map.undecidedCount());
        Checks.due(0, map.moveCount());
        Checks.due(0, map.dialogueTotal());
        Checks.due(0, map.proponentWins());
        Checks.due(0, map.brokenOffTotal());
        Checks.due(0, map.undoableCount());
        Checks.due(0, map.addArgument(1));
    }

    @Says("Removes an argument and all attacks from it and on it.")
    static void promise03AllItsAttacks() {
        ArgumentMap map = Maps.fullOfAttacks(1, 2, 3, 4, 5, 6);
        Checks.due(4, map.removeArgument(5), "attacks on it alone, all failing");
        Checks.due(7, map.removeArgument(0), "attacks from it and on it");
        Checks.due(9, map.attackCount());
        Checks.due(false, map.hasAttack(4, 1));
        Checks.due(true, map.hasAttack(1, 4));
        Checks.due(5, map.removeArgument(3));
        Checks.due(3, map.removeArgument(1));
        Checks.due(1, map.removeArgument(4));
        Checks.due(0, map.removeArgument(2));
        Checks.due(0, map.attackCount());
        Checks.due(14, Maps.ofEqual(8, "0>1 0>2 0>3 0>4 0>5 0>6 0>7 1>0 2>0 3>0 4>0 5>0 6>0 7>0").removeArgument(0));
    }

    @Says("Returns the number of attacks that are removed.")
    static void promise03NoAttacks() {
        Checks.due(0, Maps.of(5).removeArgument(0));
        Checks.due(0, Maps.ofEqual(3, "0>1").removeArgument(2));
        Checks.due(1, Maps.ofEqual(3, "0>1").removeArgument(1));
        Checks.due(2, Maps.ofEqual(3, "0>1 1>0").removeArgument(1));
    }

    @Says({"Adds an attack.", "Returns the number of attacks afterwards."})
    static void promise04FromTheFirstToTheTwentieth() {
        ArgumentMap map = Maps.ofEqual(5, "");
        int attacks = 0;
        for (int from = 0; from < 5; from++) {
            for (int to = 0; to < 5; to++) {
                if (from != to) {
                    attacks++;
                    Checks.due(attacks, map.addAttack(from, to));
                    Checks.due(true, map.hasAttack(from, to));
                }
            }
        }
        Checks.due(20, map.attackCount());
    }

    @Says({"Removes an attack.", "Returns the number of attacks afterwards."})
    static void promise05FromTheTwentiethToTheLast() {
        ArgumentMap map = Maps.fullOfAttacks();
        int attacks = 20;
        for (int attack = 0; attack < 24; attack++) {
            if (attack / 6 != attack % 6) {
                attacks--;
                Checks.due(attacks, map.removeAttack(attack / 6, attack % 6));
                Checks.due(false, map.hasAttack(attack / 6, attack % 6));
            }
        }
        Checks.due(0, map.attackCount());
    }

    @Says({"Makes the age of an argument 0.", "Returns the age before."})
    static void promise07AgesFromNoughtToNinety() {
        ArgumentMap map = Maps.of(9);
        Checks.due(0, map.renew(0));
        map.pass(1);
        Checks.due(1, map.renew(0));
        map.pass(90);
        map.pass(90);
        Checks.due(90, map.renew(0));
        Checks.due(0, map.ageOf(0));
        Checks.due(9, map.strengthOf(0));
        Checks.due(0, map.renew(0));
    }

    @Says({"Starts a dialogue with an argument.",
        "Returns the number of arguments with which the opponent could move now."})
    static void promise08FromNoAnswerToSeven() {
        Checks.due(0, Maps.of(5).startDialogue(0));
        for (int attackers = 1; attackers <= 7; attackers++) {
            ArgumentMap map = Maps.ofEqual(8, "");
            for (int from = 1; from <= attackers; from++) {
                map.addAttack(from, 0);
            }
            Checks.due(attackers, map.startDialogue(0));
        }
        ArgumentMap failing = Maps.of(5, 4, 5);
        Maps.attack(failing, "1>0 2>0 0>1");
        Checks.due(1, failing.startDialogue(0));
    }

    @Says({"Makes the next move of the dialogue, for the side whose turn it is.",
        "Returns the number of moves afterwards."})
    static void promise09FromTheSecondToTheTwelfthMove() {
        ArgumentMap map = Maps.fullDialogue();
        map.endDialogue();
        map.startDialogue(1);
        for (int moves = 2; moves <= 12; moves++) {
            Checks.due(moves, map.move(moves % 2 == 0 ? 0 : moves / 2 + 1));
            Checks.due(moves, map.moveCount());
        }
    }

    @Says({"Takes the last move of the dialogue back.", "Returns the number of moves afterwards."})
    static void promise10FromTheTwelfthMoveToTheFirst() {
        ArgumentMap map = Maps.fullDialogue();
        for (int moves = 11; moves >= 1; moves--) {
            Checks.due(moves, map.takeBack());
            Checks.due(moves % 2 == 0 ? 0 : moves / 2 + 1, map.moveAt(moves - 1));
        }
        Checks.refused(IllegalStateException.class, map::takeBack);
        Checks.due(2, map.move(0), "what the proponent has taken back can be moved again");
        Checks.due(3, map.move(2));
    }

    @Says({"Ends the dialogue.", "Returns the winner, 'p' for the proponent or 'o' for the opponent."})
    static void promise11OfOneMoveAndOfTwelve() {
        ArgumentMap one = Maps.ofEqual(2, "0>1");
        one.startDialogue(1);
        Checks.due('p', one.endDialogue());
        Checks.due(0, one.moveCount());
        Checks.due('o', Maps.fullDialogue().endDialogue());
        ArgumentMap eleven = Maps.fullDialogue();
        eleven.takeBack();
        Checks.due('p', eleven.endDialogue());
        Checks.due(false, eleven.isDialogueHeld());
    }

    @Says("Lets days pass, one after the other.")
    static void promise12NinetyDaysAreAsMuchAsNinetyTimesOne() {
        ArgumentMap once = Maps.rich();
        ArgumentMap often = Maps.rich();
        once.pass(90);
        for (int day = 0; day < 90; day++) {
            often.pass(1);
        }
        Checks.due(Maps.picture(once), Maps.picture(often));
        Checks.due(90, once.ageOf(0), "93 days old, but 90 is the greatest age");
    }

    @Says("Returns the number of attacks that are successful before or afterwards, but not both.")
    static void promise12NoneAndAllOfTheAttacks() {
        Checks.due(0, new ArgumentMap().pass(90));
        Checks.due(0, Maps.fullOfAttacks().pass(90), "successful before and afterwards");
        ArgumentMap map = Maps.of(1, 1, 1, 1);
        map.pass(90);
        for (int id = 4; id < 8; id++) {
            map.addArgument(9);
        }
        for (int attack = 0; attack < 16; attack++) {
            map.addAttack(attack / 4, 4 + attack % 4);
        }
        Maps.attack(map, "4>0 0>1 1>0 4>5");
        Checks.due(0, map.pass(79), "in vain before and afterwards");
        Checks.due(16, map.pass(1), "in vain before alone");
        Checks.due(0, map.pass(90));
        map.undo();
        map.undo();
        map.undo();
        Checks.due(16, map.pass(90));
    }

    @Says("Returns the number of attacks that are successful before or afterwards, but not both.")
    static void promise12SuccessfulBeforeAlone() {
        ArgumentMap map = Maps.of(5, 5);
        map.pass(9);
        map.renew(1);
        map.addAttack(0, 1);
        map.addAttack(1, 0);
        Checks.due(1, map.pass(1), "0 fades, and its attack fails");
        Checks.due(false, map.isSuccessful(0, 1));
        Checks.due(1, map.pass(9), "1 fades too");
        Checks.due(0, map.pass(10), "between these days the attack failed, but not at their ends");
    }
}
