import java.util.Arrays;
import java.util.NoSuchElementException;

/**
 * A map of arguments that attack each other: strengths that fade with time, accepted arguments by labels and by a
 * game, extensions, and dialogues between two sides.
 *
 * <p>Inside, an argument is named by its slot, its position in the order of ids. A set of arguments is an int with
 * one bit a slot.
 */
public final class ArgumentMap {
    private static final int MAX_ARGUMENTS = 8;
    private static final int SETS_OF_ARGUMENTS = 1 << MAX_ARGUMENTS;
    private static final int MAX_ATTACKS = 20;
    private static final int MAX_WEIGHT = 9;
    private static final int MAX_AGE = 90;
    private static final int DAYS_PER_STRENGTH = 10;
    private static final int MAX_DAYS = 90;
    private static final int MAX_MOVES = 12;
    private static final int MAX_INPUT = 60;
    private static final int MAX_CHANGES = 8;
    private static final int NONE = -1;

    private static final char ACCEPTED = 'a';
    private static final char REJECTED = 'r';
    private static final char UNDECIDED = 'u';
    private static final char PROPONENT = 'p';
    private static final char OPPONENT = 'o';

    private static final Verb[] VERBS = Verb.values();

    private final State now = new State();
    private final State saved = new State();
    private final State later = new State();
    private final History history = new History();
    private final Labels labels = new Labels();
    private final Game game = new Game();
    private final Extensions extensions = new Extensions();
    private final Program program = new Program();
    private final StringBuilder input = new StringBuilder();
    private final StringBuilder line = new StringBuilder();
    private boolean hasSaved = false;
    private int storedErrorPosition = NONE;
    private int storedFailedCommand = NONE;

    public ArgumentMap() {
    }

    public int addArgument(int weight) throws IllegalArgumentException, IllegalStateException {
        return change(Verb.ADD, weight, 0);
    }

    public int removeArgument(int id) throws NoSuchElementException {
        return change(Verb.REMOVE, id, 0);
    }

    public int addAttack(int from, int to)
            throws NoSuchElementException, IllegalArgumentException, IllegalStateException {
        return change(Verb.ATTACK, from, to);
    }

    public int removeAttack(int from, int to) throws NoSuchElementException {
        return change(Verb.YIELD, from, to);
    }

    public int setWeight(int id, int weight) throws NoSuchElementException, IllegalArgumentException {
        return change(Verb.WEIGH, id, weight);
    }

    public int renew(int id) throws NoSuchElementException {
        return change(Verb.RENEW, id, 0);
    }

    public int startDialogue(int id) throws NoSuchElementException, IllegalStateException {
        return change(Verb.CLAIM, id, 0);
    }

    public int move(int id) throws NoSuchElementException, IllegalArgumentException, IllegalStateException {
        return change(Verb.REPLY, id, 0);
    }

    public int takeBack() throws NoSuchElementException, IllegalStateException {
        return change(Verb.BACK, 0, 0);
    }

    public char endDialogue() throws NoSuchElementException {
        return (char) change(Verb.END, 0, 0);
    }

    public int pass(int days) throws IllegalArgumentException {
        return change(Verb.DAYS, days, 0);
    }

    public int day() {
        return now.day;
    }

    public int argumentCount() {
        return now.count;
    }

    public int idAt(int position) throws IndexOutOfBoundsException {
        if (position < 0 || position >= now.count) {
            throw new IndexOutOfBoundsException("no argument has this position");
        }
        return now.ids[position];
    }

    public int weightOf(int id) throws NoSuchElementException {
        return now.weights[now.slotOfKnown(id)];
    }

    public int ageOf(int id) throws NoSuchElementException {
        return now.ages[now.slotOfKnown(id)];
    }

    public int strengthOf(int id) throws NoSuchElementException {
        return now.strength(now.slotOfKnown(id));
    }

    public int attackCount() {
        return now.countAttacks();
    }

    public boolean hasAttack(int from, int to) throws NoSuchElementException {
        int fromSlot = now.slotOfKnown(from);
        int toSlot = now.slotOfKnown(to);
        return has(now.targets[fromSlot], toSlot);
    }

    public boolean isSuccessful(int from, int to) throws NoSuchElementException {
        int fromSlot = now.slotOfKnown(from);
        int toSlot = now.slotOfKnown(to);
        if (!has(now.targets[fromSlot], toSlot)) {
            throw new NoSuchElementException("there is no such attack");
        }
        return has(now.attackers[toSlot], fromSlot);
    }

    public int successfulCount() {
        int successful = 0;
        for (int slot = 0; slot < now.count; slot++) {
            successful += Integer.bitCount(now.attackers[slot]);
        }
        return successful;
    }

    public int attackerCount(int id) throws NoSuchElementException {
        return Integer.bitCount(now.attackers[now.slotOfKnown(id)]);
    }

    public int attackerAt(int id, int position) throws NoSuchElementException, IndexOutOfBoundsException {
        int attackers = now.attackers[now.slotOfKnown(id)];
        int before = 0;
        for (int slot = 0; slot < now.count; slot++) {
            if (has(attackers, slot)) {
                if (before == position) {
                    return now.ids[slot];
                }
                before++;
            }
        }
        throw new IndexOutOfBoundsException("no attacker has this position");
    }

    public char status(int id) throws NoSuchElementException {
        int slot = now.slotOfKnown(id);
        labels.give(now);
        return labels.letter(slot);
    }

    public int roundOf(int id) throws NoSuchElementException {
        int slot = now.slotOfKnown(id);
        labels.give(now);
        if (labels.letter(slot) == UNDECIDED) {
            throw new NoSuchElementException("the argument is undecided");
        }
        return labels.rounds[slot];
    }

    public boolean isAcceptedByGame(int id) throws NoSuchElementException {
        return game.isWonByProponent(now, now.slotOfKnown(id));
    }

    public boolean canOpponentWin(int id) throws NoSuchElementException {
        return !isAcceptedByGame(id);
    }

    public int acceptedCount() {
        labels.give(now);
        return Integer.bitCount(labels.accepted);
    }

    public int undecidedCount() {
        labels.give(now);
        return now.count - Integer.bitCount(labels.accepted | labels.rejected);
    }

    public int stableCount() {
        return extensions.countStable(now);
    }

    public int stableCountByLabels() {
        return extensions.countStableByLabels(now);
    }

    public int preferredCount() {
        extensions.find(now);
        return extensions.countPreferredWith(0);
    }

    public int greatestAdmissible() {
        return extensions.sizeOfGreatestAdmissible(now);
    }

    public boolean isCredible(int id) throws NoSuchElementException {
        return canStandTogether(id, id);
    }

    public boolean isCertain(int id) throws NoSuchElementException {
        int member = 1 << now.slotOfKnown(id);
        extensions.find(now);
        return extensions.countPreferredWith(member) == extensions.countPreferredWith(0);
    }

    public boolean canStandTogether(int id, int other) throws NoSuchElementException {
        int members = (1 << now.slotOfKnown(id)) | (1 << now.slotOfKnown(other));
        extensions.find(now);
        return extensions.countPreferredWith(members) > 0;
    }

    public boolean hasCycle() {
        return Cycles.remain(now);
    }

    public boolean hasCycleBySearch() {
        return Cycles.areFound(now);
    }

    public int daysUntilChange() throws NoSuchElementException {
        labels.give(now);
        int accepted = labels.accepted;
        int rejected = labels.rejected;
        later.copyFrom(now);
        for (int days = 1; days <= MAX_DAYS; days++) {
            later.age(1);
            labels.give(later);
            if (labels.accepted != accepted || labels.rejected != rejected) {
                return days;
            }
        }
        throw new NoSuchElementException("no label changes");
    }

    public char statusAfter(int id, int days) throws NoSuchElementException, IllegalArgumentException {
        int slot = now.slotOfKnown(id);
        if (days < 0 || days > MAX_DAYS) {
            throw new IllegalArgumentException("the number of days is out of range");
        }
        later.copyFrom(now);
        later.age(days);
        labels.give(later);
        return labels.letter(slot);
    }

    public int argumentByStrength(int rank) throws NoSuchElementException {
        for (int slot = 0; slot < now.count; slot++) {
            if (now.rank(slot) == rank) {
                return now.ids[slot];
            }
        }
        throw new NoSuchElementException("there is no such rank");
    }

    public boolean isDialogueHeld() {
        return now.dialogue.isHeld();
    }

    public int moveCount() {
        return now.dialogue.count;
    }

    public int moveAt(int position) throws IndexOutOfBoundsException {
        if (position < 0 || position >= now.dialogue.count) {
            throw new IndexOutOfBoundsException("there is no such move");
        }
        return now.dialogue.moves[position];
    }

    public boolean canMove(int id) throws NoSuchElementException {
        int slot = now.slotOfReply(id);
        return now.isAllowed(slot) && !now.dialogue.isFull();
    }

    public int dialogueTotal() {
        return now.dialogue.ended;
    }

    public int proponentWins() {
        return now.dialogue.wonByProponent;
    }

    public int brokenOffTotal() {
        return now.dialogue.brokenOff;
    }

    public double meanStrength() throws ArithmeticException {
        if (now.count == 0) {
            throw new ArithmeticException("there are no arguments");
        }
        int sum = 0;
        for (int slot = 0; slot < now.count; slot++) {
            sum += now.strength(slot);
        }
        return (double) sum / now.count;
    }

    public float acceptedShare() throws ArithmeticException {
        if (now.count == 0) {
            throw new ArithmeticException("there are no arguments");
        }
        return (float) acceptedCount() / now.count;
    }

    public boolean isConsistent() {
        return labelsAgreeWithGame()
                && stableCount() == stableCountByLabels()
                && hasCycle() == hasCycleBySearch();
    }

    public int formatArgument(int id) throws NoSuchElementException {
        int slot = now.slotOfKnown(id);
        labels.give(now);
        line.setLength(0);
        line.append(id).append('(').append(now.strength(slot)).append('/').append(now.weights[slot]).append(')');
        line.append(labels.letter(slot));
        for (int from = 0; from < now.count; from++) {
            if (has(now.attackers[slot], from)) {
                line.append('<').append(now.ids[from]);
            }
        }
        return line.length();
    }

    public int formatDialogue() throws NoSuchElementException {
        Dialogue dialogue = now.dialogue;
        dialogue.mustBeHeld();
        line.setLength(0);
        for (int position = 0; position < dialogue.count; position++) {
            if (position > 0) {
                line.append(' ');
            }
            line.append(Dialogue.isProponents(position) ? PROPONENT : OPPONENT).append(dialogue.moves[position]);
        }
        return line.length();
    }

    public char lineChar(int index) throws IndexOutOfBoundsException {
        if (index < 0 || index >= line.length()) {
            throw new IndexOutOfBoundsException("the line has no such index");
        }
        return line.charAt(index);
    }

    public int append(char character) throws IllegalArgumentException, IllegalStateException {
        if (character < ' ' || character > '~') {
            throw new IllegalArgumentException("the character is out of range");
        }
        if (input.length() >= MAX_INPUT) {
            throw new IllegalStateException("the input buffer is full");
        }
        input.append(character);
        return input.length();
    }

    public int run() throws IllegalArgumentException, IllegalStateException {
        boolean wellFormed = program.read(input);
        input.setLength(0);
        if (!wellFormed) {
            storedErrorPosition = program.position;
            throw new IllegalArgumentException("the program is malformed");
        }
        history.begin(now);
        int failed = executeUntilFailure();
        if (failed != NONE) {
            now.copyFrom(history.draft());
            storedFailedCommand = failed;
            throw new IllegalStateException("a command failed");
        }
        history.keep();
        return program.count;
    }

    public int errorPosition() throws NoSuchElementException {
        if (storedErrorPosition == NONE) {
            throw new NoSuchElementException("no program was malformed so far");
        }
        return storedErrorPosition;
    }

    public int failedCommand() throws NoSuchElementException {
        if (storedFailedCommand == NONE) {
            throw new NoSuchElementException("no command failed so far");
        }
        return storedFailedCommand;
    }

    public int undoableCount() {
        return history.kept;
    }

    public int undo() throws IllegalStateException {
        if (history.kept == 0) {
            throw new IllegalStateException("no change can be undone");
        }
        now.copyFrom(history.takeLatest());
        return history.kept;
    }

    public int save() {
        saved.copyFrom(now);
        hasSaved = true;
        return now.count;
    }

    public int restore() throws IllegalStateException {
        if (!hasSaved) {
            throw new IllegalStateException("there is no saved copy");
        }
        now.copyFrom(saved);
        history.forget();
        return now.count;
    }

    /** One call that can be undone: when the command throws, it has changed nothing, and the draft is left unused. */
    private int change(Verb verb, int first, int second) {
        history.begin(now);
        int answer = now.apply(verb, first, second);
        history.keep();
        return answer;
    }

    /** Returns the index of the command that failed, or NONE. */
    private int executeUntilFailure() {
        for (int index = 0; index < program.count; index++) {
            try {
                now.apply(VERBS[program.verbs[index]], program.first[index], program.second[index]);
            } catch (NoSuchElementException refused) {
                return index;
            } catch (IllegalArgumentException refused) {
                return index;
            } catch (IllegalStateException refused) {
                return index;
            }
        }
        return NONE;
    }

    private boolean labelsAgreeWithGame() {
        labels.give(now);
        for (int slot = 0; slot < now.count; slot++) {
            if (has(labels.accepted, slot) != game.isWonByProponent(now, slot)) {
                return false;
            }
        }
        return true;
    }

    private static boolean has(int set, int slot) {
        return ((set >> slot) & 1) != 0;
    }

    /** The commands. In a pattern, # stands for a number, ? for a digit, and any other character for itself. */
    private enum Verb {
        ADD("add ?"),
        REMOVE("remove #"),
        ATTACK("attack #>#"),
        YIELD("yield #>#"),
        WEIGH("weigh # ?"),
        RENEW("renew #"),
        CLAIM("claim #"),
        REPLY("reply #"),
        BACK("back"),
        END("end"),
        DAYS("days #");

        private final String pattern;

        Verb(String pattern) {
            this.pattern = pattern;
        }
    }

    /** All that changes can change. Each of its methods that throws does so before it changes anything. */
    private static final class State {
        final int[] ids = new int[MAX_ARGUMENTS];
        final int[] weights = new int[MAX_ARGUMENTS];
        final int[] ages = new int[MAX_ARGUMENTS];
        /** For each argument, the set of those that it attacks, successfully or not. */
        final int[] targets = new int[MAX_ARGUMENTS];
        /** For each argument, the set of those that attack it successfully; follows from all the rows above. */
        final int[] attackers = new int[MAX_ARGUMENTS];
        final Dialogue dialogue = new Dialogue();
        int count = 0;
        int nextId = 0;
        int day = 0;

        void copyFrom(State other) {
            System.arraycopy(other.ids, 0, ids, 0, MAX_ARGUMENTS);
            System.arraycopy(other.weights, 0, weights, 0, MAX_ARGUMENTS);
            System.arraycopy(other.ages, 0, ages, 0, MAX_ARGUMENTS);
            System.arraycopy(other.targets, 0, targets, 0, MAX_ARGUMENTS);
            System.arraycopy(other.attackers, 0, attackers, 0, MAX_ARGUMENTS);
            dialogue.copyFrom(other.dialogue);
            count = other.count;
            nextId = other.nextId;
            day = other.day;
        }

        int apply(Verb verb, int first, int second) {
            switch (verb) {
                case ADD:
                    return add(first);
                case REMOVE:
                    return remove(first);
                case ATTACK:
                    return attack(first, second);
                case YIELD:
                    return yieldAttack(first, second);
                case WEIGH:
                    return weigh(first, second);
                case RENEW:
                    return makeNew(first);
                case CLAIM:
                    return claim(first);
                case REPLY:
                    return reply(first);
                case BACK:
                    return dialogue.dropLast();
                case END:
                    return dialogue.end();
                default:
                    return letPass(first);
            }
        }

        int slotOfKnown(int id) {
            for (int slot = 0; slot < count; slot++) {
                if (ids[slot] == id) {
                    return slot;
                }
            }
            throw new NoSuchElementException("no argument has this id");
        }

        int slotOfReply(int id) {
            dialogue.mustBeHeld();
            return slotOfKnown(id);
        }

        int all() {
            return (1 << count) - 1;
        }

        int strength(int slot) {
            int faded = weights[slot] - ages[slot] / DAYS_PER_STRENGTH;
            return faded < 1 ? 1 : faded;
        }

        int countAttacks() {
            int attacks = 0;
            for (int slot = 0; slot < count; slot++) {
                attacks += Integer.bitCount(targets[slot]);
            }
            return attacks;
        }

        /** How many arguments stand before this one in the order of strengths. */
        int rank(int slot) {
            int before = 0;
            for (int other = 0; other < count; other++) {
                if (other != slot && isBefore(other, slot)) {
                    before++;
                }
            }
            return before;
        }

        boolean isAllowed(int slot) {
            int attackersOfLast = attackers[slotOfKnown(dialogue.last())];
            return has(attackersOfLast, slot)
                    && !(Dialogue.isProponents(dialogue.count) && dialogue.isMovedByProponent(ids[slot]));
        }

        /** Makes all arguments older; returns the number of attacks that begin or cease to be successful. */
        int age(int days) {
            day += days;
            for (int slot = 0; slot < count; slot++) {
                ages[slot] = Math.min(MAX_AGE, ages[slot] + days);
            }
            return findAttackers();
        }

        private int add(int weight) {
            mustBeWeight(weight);
            if (count >= MAX_ARGUMENTS) {
                throw new IllegalStateException("the map is full");
            }
            int id = nextId;
            ids[count] = id;
            weights[count] = weight;
            ages[count] = 0;
            targets[count] = 0;
            count++;
            nextId++;
            findAttackers();
            return id;
        }

        private int remove(int id) {
            int slot = slotOfKnown(id);
            int attacksBefore = countAttacks();
            count--;
            for (int moved = slot; moved < count; moved++) {
                ids[moved] = ids[moved + 1];
                weights[moved] = weights[moved + 1];
                ages[moved] = ages[moved + 1];
                targets[moved] = targets[moved + 1];
            }
            for (int from = 0; from < count; from++) {
                targets[from] = withoutSlot(targets[from], slot);
            }
            findAttackers();
            dialogue.breakOffIfMoved(id);
            return attacksBefore - countAttacks();
        }

        private int attack(int from, int to) {
            int fromSlot = slotOfKnown(from);
            int toSlot = slotOfKnown(to);
            if (fromSlot == toSlot) {
                throw new IllegalArgumentException("no argument attacks itself");
            }
            if (has(targets[fromSlot], toSlot)) {
                throw new IllegalStateException("there is this attack");
            }
            if (countAttacks() >= MAX_ATTACKS) {
                throw new IllegalStateException("the map has all its attacks");
            }
            targets[fromSlot] |= 1 << toSlot;
            findAttackers();
            return countAttacks();
        }

        private int yieldAttack(int from, int to) {
            int fromSlot = slotOfKnown(from);
            int toSlot = slotOfKnown(to);
            if (!has(targets[fromSlot], toSlot)) {
                throw new NoSuchElementException("there is no such attack");
            }
            targets[fromSlot] &= ~(1 << toSlot);
            findAttackers();
            return countAttacks();
        }

        private int weigh(int id, int weight) {
            int slot = slotOfKnown(id);
            mustBeWeight(weight);
            int before = weights[slot];
            weights[slot] = weight;
            findAttackers();
            return before;
        }

        private int makeNew(int id) {
            int slot = slotOfKnown(id);
            int before = ages[slot];
            ages[slot] = 0;
            findAttackers();
            return before;
        }

        private int claim(int id) {
            int slot = slotOfKnown(id);
            if (dialogue.isHeld()) {
                throw new IllegalStateException("a dialogue is held");
            }
            dialogue.add(id);
            return Integer.bitCount(attackers[slot]);
        }

        private int reply(int id) {
            int slot = slotOfReply(id);
            if (!isAllowed(slot)) {
                throw new IllegalArgumentException("the rules do not allow this move");
            }
            if (dialogue.isFull()) {
                throw new IllegalStateException("the dialogue has all its moves");
            }
            dialogue.add(id);
            return dialogue.count;
        }

        private int letPass(int days) {
            if (days < 1 || days > MAX_DAYS) {
                throw new IllegalArgumentException("the number of days is out of range");
            }
            return age(days);
        }

        private static void mustBeWeight(int weight) {
            if (weight < 1 || weight > MAX_WEIGHT) {
                throw new IllegalArgumentException("the weight is out of range");
            }
        }

        /** Returns the set with the slots above this one moved down by one. */
        private static int withoutSlot(int set, int slot) {
            int below = (1 << slot) - 1;
            return (set & below) | ((set >> 1) & ~below);
        }

        private boolean isBefore(int slot, int other) {
            if (strength(slot) != strength(other)) {
                return strength(slot) > strength(other);
            }
            int attackersOfSlot = Integer.bitCount(attackers[slot]);
            int attackersOfOther = Integer.bitCount(attackers[other]);
            if (attackersOfSlot != attackersOfOther) {
                return attackersOfSlot < attackersOfOther;
            }
            return slot < other;
        }

        /** Brings the attackers up to date; returns how many attackers came or went. */
        private int findAttackers() {
            int changed = 0;
            for (int to = 0; to < count; to++) {
                int found = 0;
                for (int from = 0; from < count; from++) {
                    if (has(targets[from], to) && strength(from) >= strength(to)) {
                        found |= 1 << from;
                    }
                }
                changed += Integer.bitCount(found ^ attackers[to]);
                attackers[to] = found;
            }
            return changed;
        }
    }

    /** The present dialogue, which has no move when none is held, and the totals of those before it. */
    private static final class Dialogue {
        final int[] moves = new int[MAX_MOVES];
        int count = 0;
        int ended = 0;
        int wonByProponent = 0;
        int brokenOff = 0;

        void copyFrom(Dialogue other) {
            System.arraycopy(other.moves, 0, moves, 0, MAX_MOVES);
            count = other.count;
            ended = other.ended;
            wonByProponent = other.wonByProponent;
            brokenOff = other.brokenOff;
        }

        static boolean isProponents(int position) {
            return position % 2 == 0;
        }

        boolean isHeld() {
            return count > 0;
        }

        boolean isFull() {
            return count >= MAX_MOVES;
        }

        void mustBeHeld() {
            if (count == 0) {
                throw new NoSuchElementException("no dialogue is held");
            }
        }

        int last() {
            return count > 0 ? moves[count - 1] : NONE;
        }

        boolean isMovedByProponent(int id) {
            for (int position = 0; position < count; position++) {
                if (isProponents(position) && moves[position] == id) {
                    return true;
                }
            }
            return false;
        }

        void add(int id) {
            if (!isFull()) {
                moves[count] = id;
                count++;
            }
        }

        int dropLast() {
            mustBeHeld();
            if (count == 1) {
                throw new IllegalStateException("the dialogue has only one move");
            }
            count--;
            return count;
        }

        /** Returns the letter of the winner. */
        char end() {
            mustBeHeld();
            boolean lastByProponent = isProponents(count - 1);
            count = 0;
            ended++;
            if (lastByProponent) {
                wonByProponent++;
                return PROPONENT;
            }
            return OPPONENT;
        }

        void breakOffIfMoved(int id) {
            for (int position = 0; position < count; position++) {
                if (moves[position] == id) {
                    count = 0;
                    brokenOff++;
                    return;
                }
            }
        }
    }

    /** The states before the latest changes, in a ring that has one row more for the change that is being tried. */
    private static final class History {
        private final State[] rows = new State[MAX_CHANGES + 1];
        private int next = 0;
        int kept = 0;

        History() {
            for (int row = 0; row <= MAX_CHANGES; row++) {
                rows[row] = new State();
            }
        }

        State draft() {
            return rows[next];
        }

        void begin(State now) {
            draft().copyFrom(now);
        }

        void keep() {
            next = next == MAX_CHANGES ? 0 : next + 1;
            kept = Math.min(MAX_CHANGES, kept + 1);
        }

        /** To be called only while changes are kept. */
        State takeLatest() {
            next = next == 0 ? MAX_CHANGES : next - 1;
            kept--;
            return draft();
        }

        void forget() {
            kept = 0;
        }
    }

    /** The labels of a state's arguments. */
    private static final class Labels {
        /** For each argument with a label, the round in which it got it. */
        final int[] rounds = new int[MAX_ARGUMENTS];
        int accepted = 0;
        int rejected = 0;

        void give(State state) {
            accepted = 0;
            rejected = 0;
            boolean given = true;
            for (int round = 1; given && round <= MAX_ARGUMENTS; round++) {
                int labelledBefore = accepted | rejected;
                accepted |= findAcceptable(state);
                rejected |= findRejectable(state);
                int labelledNow = (accepted | rejected) & ~labelledBefore;
                noteRound(labelledNow, round);
                given = labelledNow != 0;
            }
        }

        char letter(int slot) {
            if (has(accepted, slot)) {
                return ACCEPTED;
            }
            return has(rejected, slot) ? REJECTED : UNDECIDED;
        }

        private int findAcceptable(State state) {
            int found = 0;
            for (int slot = 0; slot < state.count; slot++) {
                if (letter(slot) == UNDECIDED && (state.attackers[slot] & ~rejected) == 0) {
                    found |= 1 << slot;
                }
            }
            return found;
        }

        private int findRejectable(State state) {
            int found = 0;
            for (int slot = 0; slot < state.count; slot++) {
                if (letter(slot) == UNDECIDED && (state.attackers[slot] & accepted) != 0) {
                    found |= 1 << slot;
                }
            }
            return found;
        }

        private void noteRound(int slots, int round) {
            for (int slot = 0; slot < MAX_ARGUMENTS; slot++) {
                if (has(slots, slot)) {
                    rounds[slot] = round;
                }
            }
        }
    }

    /** The search through the game about an argument. */
    private static final class Game {
        // What is known of a position, so that no position is searched twice: for each set of arguments that the
        // proponent has moved, the latest proponent's moves from which the proponent can, or cannot, always win.
        private final int[] won = new int[SETS_OF_ARGUMENTS];
        private final int[] lost = new int[SETS_OF_ARGUMENTS];

        boolean isWonByProponent(State state, int slot) {
            Arrays.fill(won, 0);
            Arrays.fill(lost, 0);
            return holds(state.attackers, slot, 1 << slot, 1);
        }

        /** Whether the proponent, who has just moved this argument, can win against each move of the opponent. */
        private boolean holds(int[] attackers, int slot, int moved, int depth) {
            if (depth > MAX_ARGUMENTS || has(lost[moved], slot)) {
                return false;
            }
            if (has(won[moved], slot)) {
                return true;
            }
            for (int attacker = 0; attacker < MAX_ARGUMENTS; attacker++) {
                if (has(attackers[slot], attacker) && !isAnswered(attackers, attacker, moved, depth)) {
                    lost[moved] |= 1 << slot;
                    return false;
                }
            }
            won[moved] |= 1 << slot;
            return true;
        }

        /** Whether the proponent has a move that wins, now that the opponent has just moved this argument. */
        private boolean isAnswered(int[] attackers, int slot, int moved, int depth) {
            int free = attackers[slot] & ~moved;
            for (int answer = 0; answer < MAX_ARGUMENTS; answer++) {
                if (has(free, answer) && holds(attackers, answer, moved | (1 << answer), depth + 1)) {
                    return true;
                }
            }
            return false;
        }
    }

    /** Sets of arguments that are stable, admissible or preferred. */
    private static final class Extensions {
        private final boolean[] preferred = new boolean[SETS_OF_ARGUMENTS];
        /** Whether the set, or a set that has all its arguments and others, is admissible. */
        private final boolean[] covered = new boolean[SETS_OF_ARGUMENTS];
        private int setCount = 1;

        int countStable(State state) {
            int stable = 0;
            int all = state.all();
            for (int set = 0; set <= all; set++) {
                if (isFree(state, set) && isAttackedBy(state, all & ~set, set)) {
                    stable++;
                }
            }
            return stable;
        }

        int countStableByLabels(State state) {
            return countFrom(state, 0, 0, 0);
        }

        int sizeOfGreatestAdmissible(State state) {
            int greatest = 0;
            int all = state.all();
            for (int set = 0; set <= all; set++) {
                if (isAdmissible(state, set)) {
                    greatest = Math.max(greatest, Integer.bitCount(set));
                }
            }
            return greatest;
        }

        /** Finds the preferred sets, the greater sets before those that they may cover. */
        void find(State state) {
            int all = state.all();
            setCount = all + 1;
            for (int set = all; set >= 0; set--) {
                boolean admissible = isAdmissible(state, set);
                boolean coveredByGreater = isCoveredByGreater(set, all);
                preferred[set] = admissible && !coveredByGreater;
                covered[set] = admissible || coveredByGreater;
            }
        }

        int countPreferredWith(int members) {
            int found = 0;
            for (int set = 0; set < setCount; set++) {
                if (preferred[set] && (set & members) == members) {
                    found++;
                }
            }
            return found;
        }

        private boolean isCoveredByGreater(int set, int all) {
            for (int slot = 0; slot < MAX_ARGUMENTS; slot++) {
                if (has(all & ~set, slot) && covered[set | (1 << slot)]) {
                    return true;
                }
            }
            return false;
        }

        private static int attackersOf(State state, int set) {
            int attackers = 0;
            for (int slot = 0; slot < state.count; slot++) {
                if (has(set, slot)) {
                    attackers |= state.attackers[slot];
                }
            }
            return attackers;
        }

        private static boolean isFree(State state, int set) {
            return (attackersOf(state, set) & set) == 0;
        }

        /** Whether each argument of the set has an attacker among those. */
        private static boolean isAttackedBy(State state, int set, int attacking) {
            for (int slot = 0; slot < state.count; slot++) {
                if (has(set, slot) && (state.attackers[slot] & attacking) == 0) {
                    return false;
                }
            }
            return true;
        }

        private static boolean isAdmissible(State state, int set) {
            int attackers = attackersOf(state, set);
            return (attackers & set) == 0 && isAttackedBy(state, attackers, set);
        }

        /** Counts the stable sets that keep to what is decided: all slots below this one, inside or outside. */
        private static int countFrom(State state, int slot, int inside, int outside) {
            boolean hopeless = !isFree(state, inside) || !isAttackedBy(state, outside, state.all() & ~outside);
            if (hopeless || slot > state.count) {
                return 0;
            }
            if (slot == state.count) {
                return 1;
            }
            return countFrom(state, slot + 1, inside | (1 << slot), outside)
                    + countFrom(state, slot + 1, inside, outside | (1 << slot));
        }
    }

    /** The two ways to tell whether successful attacks lead from some argument back to itself. */
    private static final class Cycles {
        /** By taking away arguments without attackers: what remains when there are none is on or behind a cycle. */
        static boolean remain(State state) {
            int remaining = state.all();
            for (int round = 0; round < state.count; round++) {
                for (int slot = 0; slot < state.count; slot++) {
                    if ((state.attackers[slot] & remaining) == 0) {
                        remaining &= ~(1 << slot);
                    }
                }
            }
            return remaining != 0;
        }

        /** By following attacks in depth. */
        static boolean areFound(State state) {
            for (int slot = 0; slot < state.count; slot++) {
                if (meetsPath(state.attackers, slot, 0, 0)) {
                    return true;
                }
            }
            return false;
        }

        /** Whether attacks lead, against their direction, from this argument to one of the path or round a cycle. */
        private static boolean meetsPath(int[] attackers, int slot, int path, int depth) {
            if (has(path, slot)) {
                return true;
            }
            if (depth >= MAX_ARGUMENTS) {
                return false;
            }
            for (int attacker = 0; attacker < MAX_ARGUMENTS; attacker++) {
                if (has(attackers[slot], attacker)
                        && meetsPath(attackers, attacker, path | (1 << slot), depth + 1)) {
                    return true;
                }
            }
            return false;
        }
    }

    /** The commands of the latest program that was read. */
    private static final class Program {
        // The shortest command and its semicolon have four characters, so that the input holds at most 15 commands;
        // one row more lets the end of an input behind its 15th semicolon be found as the place of the error.
        private static final int MAX_COMMANDS = MAX_INPUT / 4 + 1;
        private static final int DIGITS_OF_NUMBER = 2;
        private static final char NUMBER = '#';
        private static final char DIGIT = '?';

        final int[] verbs = new int[MAX_COMMANDS];
        final int[] first = new int[MAX_COMMANDS];
        final int[] second = new int[MAX_COMMANDS];
        int count = 0;
        /** Where the reading stands; the error position once a program has been found malformed. */
        int position = 0;
        private int operandCount = 0;

        boolean read(StringBuilder text) {
            position = 0;
            for (count = 0; count < MAX_COMMANDS; count++) {
                if (!readCommand(text)) {
                    return false;
                }
                if (position == text.length()) {
                    count++;
                    return true;
                }
                if (!readCharacter(text, ';')) {
                    return false;
                }
            }
            return false;
        }

        /** Tries all verbs; where none fits, the position becomes the furthest one that any of them came to. */
        private boolean readCommand(StringBuilder text) {
            int start = position;
            int furthest = start;
            for (int verb = 0; verb < VERBS.length; verb++) {
                position = start;
                if (readPattern(text, VERBS[verb].pattern)) {
                    verbs[count] = verb;
                    return true;
                }
                furthest = Math.max(furthest, position);
            }
            position = furthest;
            return false;
        }

        private boolean readPattern(StringBuilder text, String pattern) {
            operandCount = 0;
            for (int index = 0; index < pattern.length(); index++) {
                if (!readPart(text, pattern.charAt(index))) {
                    return false;
                }
            }
            return true;
        }

        private boolean readPart(StringBuilder text, char part) {
            if (part == NUMBER) {
                return readNumber(text, DIGITS_OF_NUMBER);
            }
            if (part == DIGIT) {
                return readNumber(text, 1);
            }
            return readCharacter(text, part);
        }

        private boolean readCharacter(StringBuilder text, char wanted) {
            if (position >= text.length() || text.charAt(position) != wanted) {
                return false;
            }
            position++;
            return true;
        }

        private boolean readNumber(StringBuilder text, int maxDigits) {
            int value = 0;
            int digits = 0;
            while (digits < maxDigits && position < text.length() && isDigit(text.charAt(position))) {
                value = value * 10 + (text.charAt(position) - '0');
                position++;
                digits++;
            }
            if (digits == 0) {
                return false;
            }
            noteOperand(value);
            return true;
        }

        private void noteOperand(int value) {
            int[] row = operandCount == 0 ? first : second;
            row[count] = value;
            operandCount++;
        }

        private static boolean isDigit(char character) {
            return character >= '0' && character <= '9';
        }
    }
}
