import java.util.Arrays;

/**
 * Two editions of an on and off program compared: whether they answer alike, tick by tick, the
 * shortest rows that show a difference, how many states are reached and how few would do, and
 * which blocks are the same by structure or idle.
 */
public final class EditionEqual {
    /** There is none. */
    public static final int NONE = -1;

    private static final int MOST_POINTS = 4;
    private static final int MOST_ROWS = 16;
    private static final int MOST_BLOCKS = 24;
    private static final int MOST_DELAYS = 5;
    private static final int MOST_STATES = 32;
    private static final int MOST_PAIRS = 1024;
    private static final int EDITIONS = 2;
    private static final int INPUTS = 2;
    private static final int OUTPUTS = 3;
    private static final int OUTS = 8;

    private static final int POINT = 0;
    private static final int FIXED = 1;
    private static final int NOT = 2;
    private static final int BOTH = 3;
    private static final int EITHER = 4;
    private static final int UNLIKE = 5;
    private static final int DELAY = 6;
    private static final int KINDS = 7;

    /** For each place among the delays: bit s tells what that delay tells in state s. */
    private static final int[] DELAY_COLUMNS = {0xAAAAAAAA, 0xCCCCCCCC, 0xF0F0F0F0, 0xFF00FF00, 0xFFFF0000};

    private final int pointCount;
    private final int rowCount;
    private final Edition firstEdition;
    private final Edition secondEdition;
    private final Behaviour firstBehaviour;
    private final Behaviour secondBehaviour;
    private final PairSearch search;
    private final Matching matching;
    /** Bit r tells whether row r is barred. */
    private int barredRows;

    public EditionEqual(int points) {
        pointCount = Math.max(1, Math.min(MOST_POINTS, points));
        rowCount = 1 << pointCount;
        firstEdition = new Edition();
        secondEdition = new Edition();
        firstBehaviour = new Behaviour(firstEdition);
        secondBehaviour = new Behaviour(secondEdition);
        search = new PairSearch(firstBehaviour, secondBehaviour);
        matching = new Matching(firstEdition, secondEdition);
        barredRows = 0;
    }

    public int block(int edition, int kind, int number) throws IllegalArgumentException, IllegalStateException {
        Edition chosen = editionOf(edition);
        if (!isWithin(kind, KINDS) || !isNumberOfKind(kind, number)) {
            throw new IllegalArgumentException("no such kind, or no such number of the kind");
        }
        if (!chosen.hasRoomFor(kind)) {
            throw new IllegalStateException("no more blocks, or no more delays");
        }
        forgetAnswers();
        return chosen.addBlock(kind, number);
    }

    public int wire(int edition, int block, int input, int to) throws IllegalArgumentException {
        Edition chosen = editionOf(edition);
        if (!chosen.hasBlock(block) || !isWithin(input, INPUTS) || !chosen.hasBlockOrNone(to)) {
            throw new IllegalArgumentException("no such block or input");
        }
        forgetAnswers();
        return chosen.rewire(block, input, to);
    }

    public int out(int edition, int output, int block) throws IllegalArgumentException {
        Edition chosen = editionOf(edition);
        if (!isWithin(output, OUTPUTS) || !chosen.hasBlockOrNone(block)) {
            throw new IllegalArgumentException("no such output or block");
        }
        forgetAnswers();
        return chosen.changeOutput(output, block);
    }

    public boolean bar(int row, boolean on) throws IllegalArgumentException {
        checkRow(row);
        forgetAnswers();
        int bit = 1 << row;
        boolean was = (barredRows & bit) != 0;
        barredRows = on ? barredRows | bit : barredRows & ~bit;
        return was;
    }

    public int wrong(int edition) throws IllegalArgumentException {
        return editionOf(edition).firstFault();
    }

    // ---- ticks

    public int value(int edition, int block, int state, int row)
            throws IllegalArgumentException, IllegalStateException {
        checkBlock(editionOf(edition), block);
        checkRow(row);
        return behaviourOf(edition).valueOf(block, state, row);
    }

    public int tick(int edition, int state, int row) throws IllegalArgumentException, IllegalStateException {
        checkRow(row);
        Behaviour behaviour = behaviourOf(edition);
        return behaviour.outsOf(state, row) + OUTS * behaviour.stateAfter(state, row);
    }

    public int reached(int edition) throws IllegalArgumentException, IllegalStateException {
        return behaviourOf(edition).countReached();
    }

    public int state(int edition, int place) throws IllegalArgumentException, IllegalStateException {
        if (place < 0) {
            throw new IllegalArgumentException("a place is not below 0");
        }
        return behaviourOf(edition).reachedAt(place);
    }

    public int least(int edition) throws IllegalArgumentException, IllegalStateException {
        return behaviourOf(edition).countClasses(openRows());
    }

    // ---- both

    public int compare() throws IllegalStateException {
        return searchOfBoth().countShown();
    }

    public int shown(int k) throws IllegalArgumentException, IllegalStateException {
        if (k < 0) {
            throw new IllegalArgumentException("rows are counted from 0");
        }
        PairSearch done = searchOfBoth();
        if (k >= done.countShown()) {
            throw new IllegalArgumentException("so many rows are not shown");
        }
        return done.shownRow(k);
    }

    public int last(int edition) throws IllegalArgumentException, IllegalStateException {
        checkEdition(edition);
        return searchOfBoth().lastOuts(edition);
    }

    public int pairs() throws IllegalStateException {
        return searchOfBoth().countPairs();
    }

    // ---- structure

    public boolean same() throws IllegalStateException {
        checkBothRight();
        return matching.matchAll();
    }

    public int matched(int block) throws IllegalArgumentException, IllegalStateException {
        checkBlock(firstEdition, block);
        checkBothRight();
        return matching.matchAll() ? matching.partnerOf(block) : NONE;
    }

    public int idle(int edition, int k) throws IllegalArgumentException {
        Edition chosen = editionOf(edition);
        if (k < 0) {
            throw new IllegalArgumentException("idle blocks are counted from 0");
        }
        return chosen.idleAt(k);
    }

    public int blocks(int edition) throws IllegalArgumentException {
        return editionOf(edition).countBlocks();
    }

    // ---- what the calls above share

    private Edition editionOf(int edition) {
        checkEdition(edition);
        return edition == 0 ? firstEdition : secondEdition;
    }

    private Behaviour behaviourOf(int edition) {
        if (editionOf(edition).firstFault() != NONE) {
            throw new IllegalStateException("the edition is not right");
        }
        Behaviour behaviour = edition == 0 ? firstBehaviour : secondBehaviour;
        behaviour.learn(rowCount, openRows());
        return behaviour;
    }

    private PairSearch searchOfBoth() {
        checkBothRight();
        firstBehaviour.learn(rowCount, openRows());
        secondBehaviour.learn(rowCount, openRows());
        search.learn(openRows());
        return search;
    }

    /** What was worked out of the editions and rows holds only until one of them changes. */
    private void forgetAnswers() {
        firstBehaviour.forget();
        secondBehaviour.forget();
        search.forget();
    }

    private int openRows() {
        return ((1 << rowCount) - 1) & ~barredRows;
    }

    private boolean isNumberOfKind(int kind, int number) {
        switch (kind) {
            case POINT:
                return isWithin(number, pointCount);
            case FIXED:
                return isWithin(number, 2);
            default:
                return true;
        }
    }

    private void checkRow(int row) {
        if (!isWithin(row, rowCount)) {
            throw new IllegalArgumentException("no such row");
        }
    }

    private void checkBothRight() {
        if (firstEdition.firstFault() != NONE || secondEdition.firstFault() != NONE) {
            throw new IllegalStateException("one of the editions is not right");
        }
    }

    private static void checkEdition(int edition) {
        if (!isWithin(edition, EDITIONS)) {
            throw new IllegalArgumentException("no such edition");
        }
    }

    private static void checkBlock(Edition edition, int block) {
        if (!edition.hasBlock(block)) {
            throw new IllegalArgumentException("no such block");
        }
    }

    private static boolean isWithin(int number, int bound) {
        return number >= 0 && number < bound;
    }

    /** A set of numbers below 32 is an int with their bits; NONE has no bit. */
    private static int bitOf(int number) {
        return number >= 0 && number < 32 ? 1 << number : 0;
    }

    private static boolean holds(int set, int number) {
        return number >= 0 && number < 32 && (set >>> number & 1) != 0;
    }

    /** The blocks of one edition, their wires, and its outputs. */
    private static final class Edition {
        private final int[] kinds = new int[MOST_BLOCKS];
        private final int[] numbers = new int[MOST_BLOCKS];
        private final int[] neededInputs = new int[MOST_BLOCKS];
        private final int[] wires = new int[MOST_BLOCKS * INPUTS];
        /** For each block the set of those at its needed inputs. */
        private final int[] neededBlocks = new int[MOST_BLOCKS];
        private final int[] outputs = new int[OUTPUTS];
        private final int[] delays = new int[MOST_DELAYS];
        /** Room for firstComingBack, made once. */
        private final int[] ahead = new int[MOST_BLOCKS];
        private int blockCount = 0;
        private int delayCount = 0;

        Edition() {
            Arrays.fill(wires, NONE);
            Arrays.fill(outputs, NONE);
        }

        boolean hasRoomFor(int kind) {
            return blockCount < MOST_BLOCKS && (kind != DELAY || delayCount < MOST_DELAYS);
        }

        /** Nobody asks for a delay's number, so that its place among the delays stands there. */
        int addBlock(int kind, int number) {
            if (!hasRoomFor(kind)) {
                return NONE;
            }
            int added = blockCount;
            kinds[added] = kind;
            numbers[added] = number;
            neededInputs[added] = countNeeded(kind);
            if (kind == DELAY) {
                numbers[added] = delayCount;
                delays[delayCount] = added;
                delayCount++;
            }
            blockCount++;
            return added;
        }

        private static int countNeeded(int kind) {
            switch (kind) {
                case POINT:
                case FIXED:
                    return 0;
                case BOTH:
                case EITHER:
                case UNLIKE:
                    return 2;
                default:
                    return 1;
            }
        }

        int rewire(int block, int input, int to) {
            if (!hasBlock(block) || !isWithin(input, INPUTS)) {
                return NONE;
            }
            int was = wires[block * INPUTS + input];
            wires[block * INPUTS + input] = to;
            neededBlocks[block] = bitOf(neededAt(block, 0)) | bitOf(neededAt(block, 1));
            return was;
        }

        int changeOutput(int output, int block) {
            int was = outputAt(output);
            if (isWithin(output, OUTPUTS)) {
                outputs[output] = block;
            }
            return was;
        }

        int countBlocks() {
            return blockCount;
        }

        int countDelays() {
            return delayCount;
        }

        boolean hasBlock(int block) {
            return block >= 0 && block < blockCount;
        }

        boolean hasBlockOrNone(int block) {
            return block == NONE || hasBlock(block);
        }

        int kindOf(int block) {
            return hasBlock(block) ? kinds[block] : NONE;
        }

        int numberOf(int block) {
            return hasBlock(block) ? numbers[block] : NONE;
        }

        int outputAt(int output) {
            return isWithin(output, OUTPUTS) ? outputs[output] : NONE;
        }

        int delayAt(int place) {
            return isWithin(place, delayCount) ? delays[place] : NONE;
        }

        /** The block at a needed input; NONE also if the input is not needed. */
        int neededAt(int block, int input) {
            boolean needed = hasBlock(block) && input >= 0 && input < neededInputs[block];
            return needed ? wires[block * INPUTS + input] : NONE;
        }

        /** The set of blocks on which this block's value hangs in the same tick. */
        int neededInTick(int block) {
            return hasBlock(block) && kinds[block] != DELAY ? neededBlocks[block] : 0;
        }

        int firstFault() {
            int unwired = firstUnwired();
            return unwired != NONE ? unwired : firstComingBack();
        }

        private int firstUnwired() {
            for (int block = 0; block < blockCount; block++) {
                for (int input = 0; input < neededInputs[block]; input++) {
                    if (wires[block * INPUTS + input] == NONE) {
                        return block;
                    }
                }
            }
            return NONE;
        }

        private int firstComingBack() {
            for (int block = 0; block < blockCount; block++) {
                ahead[block] = neededInTick(block);
            }
            for (int middle = 0; middle < blockCount; middle++) {
                for (int block = 0; block < blockCount; block++) {
                    if (holds(ahead[block], middle)) {
                        ahead[block] |= ahead[middle];
                    }
                }
            }
            for (int block = 0; block < blockCount; block++) {
                if (holds(ahead[block], block)) {
                    return block;
                }
            }
            return NONE;
        }

        int idleAt(int k) {
            int live = liveBlocks();
            int before = 0;
            for (int block = 0; block < blockCount; block++) {
                if (!holds(live, block)) {
                    if (before == k) {
                        return block;
                    }
                    before++;
                }
            }
            return NONE;
        }

        private int liveBlocks() {
            int live = 0;
            for (int output = 0; output < OUTPUTS; output++) {
                live |= bitOf(outputs[output]);
            }
            boolean grown = true;
            for (int pass = 0; pass < MOST_BLOCKS && grown; pass++) {
                int before = live;
                for (int block = 0; block < blockCount; block++) {
                    live |= holds(live, block) ? neededBlocks[block] : 0;
                }
                grown = live != before;
            }
            return live;
        }
    }

    /**
     * What a right edition does, by state and row. A block's values in all 32 states by one row
     * are the bits of one int, its column, so that a row needs each block worked out only once.
     */
    private static final class Behaviour {
        private final Edition edition;
        private final int[] order = new int[MOST_BLOCKS];
        private final int[] columns = new int[MOST_ROWS * MOST_BLOCKS];
        private final int[] outs = new int[MOST_ROWS * MOST_STATES];
        private final int[] nextStates = new int[MOST_ROWS * MOST_STATES];
        private final int[] queue = new int[MOST_STATES];
        private final int[] classes = new int[MOST_STATES];
        private final int[] keys = new int[MOST_STATES];
        private final int[] newClasses = new int[MOST_STATES];
        private int orderedCount = 0;
        private int stateCount = 1;
        private int reachedStates = 0;
        private boolean known = false;

        Behaviour(Edition edition) {
            this.edition = edition;
        }

        void forget() {
            known = false;
        }

        void learn(int rowCount, int openRows) {
            if (known) {
                return;
            }
            stateCount = 1 << edition.countDelays();
            orderBlocks();
            for (int row = 0; row < rowCount && row < MOST_ROWS; row++) {
                fillColumns(row);
                fillTicks(row);
            }
            findReached(openRows);
            known = true;
        }

        int valueOf(int block, int state, int row) {
            return (columnAt(block, row) >>> (state & (MOST_STATES - 1))) & 1;
        }

        int outsOf(int state, int row) {
            return isWithin(row, MOST_ROWS) ? outs[placeOf(state, row)] : 0;
        }

        int stateAfter(int state, int row) {
            return isWithin(row, MOST_ROWS) ? nextStates[placeOf(state, row)] : 0;
        }

        int countReached() {
            return Integer.bitCount(reachedStates);
        }

        int reachedAt(int place) {
            int before = 0;
            for (int state = 0; state < MOST_STATES; state++) {
                if (holds(reachedStates, state)) {
                    if (before == place) {
                        return state;
                    }
                    before++;
                }
            }
            return NONE;
        }

        /** Bits above the edition's delays are not asked, so they are cut off here. */
        private int placeOf(int state, int row) {
            return row * MOST_STATES + (state & (stateCount - 1));
        }

        /** Blocks come behind all those they hang on in the same tick. */
        private void orderBlocks() {
            int ordered = 0;
            orderedCount = 0;
            for (int pass = 0; pass < MOST_BLOCKS && orderedCount < edition.countBlocks(); pass++) {
                for (int block = 0; block < edition.countBlocks(); block++) {
                    boolean ready = (edition.neededInTick(block) & ~ordered) == 0;
                    if (ready && !holds(ordered, block) && orderedCount < MOST_BLOCKS) {
                        order[orderedCount] = block;
                        orderedCount++;
                        ordered |= bitOf(block);
                    }
                }
            }
        }

        private void fillColumns(int row) {
            for (int place = 0; place < orderedCount && place < MOST_BLOCKS; place++) {
                int block = order[place];
                if (isWithin(block, MOST_BLOCKS)) {
                    columns[row * MOST_BLOCKS + block] = workOutColumn(block, row);
                }
            }
        }

        private int workOutColumn(int block, int row) {
            int number = edition.numberOf(block);
            int left = columnAt(edition.neededAt(block, 0), row);
            int right = columnAt(edition.neededAt(block, 1), row);
            switch (edition.kindOf(block)) {
                case POINT:
                    return holds(row, number) ? -1 : 0;
                case FIXED:
                    return number == 1 ? -1 : 0;
                case NOT:
                    return ~left;
                case BOTH:
                    return left & right;
                case EITHER:
                    return left | right;
                case UNLIKE:
                    return left ^ right;
                default:
                    return isWithin(number, MOST_DELAYS) ? DELAY_COLUMNS[number] : 0;
            }
        }

        private int columnAt(int block, int row) {
            boolean exists = isWithin(block, MOST_BLOCKS) && isWithin(row, MOST_ROWS);
            return exists ? columns[row * MOST_BLOCKS + block] : 0;
        }

        private void fillTicks(int row) {
            for (int state = 0; state < stateCount && state < MOST_STATES; state++) {
                int outBits = 0;
                for (int output = 0; output < OUTPUTS; output++) {
                    outBits |= valueOf(edition.outputAt(output), state, row) << output;
                }
                int next = 0;
                for (int place = 0; place < edition.countDelays(); place++) {
                    int source = edition.neededAt(edition.delayAt(place), 0);
                    next |= valueOf(source, state, row) << place;
                }
                outs[row * MOST_STATES + state] = outBits;
                nextStates[row * MOST_STATES + state] = next;
            }
        }

        private void findReached(int openRows) {
            queue[0] = 0;
            int found = 1;
            reachedStates = bitOf(0);
            for (int head = 0; head < found && head < MOST_STATES; head++) {
                for (int row = 0; row < MOST_ROWS; row++) {
                    int next = holds(openRows, row) ? stateAfter(queue[head], row) : 0;
                    if (!holds(reachedStates, next) && found < MOST_STATES) {
                        reachedStates |= bitOf(next);
                        queue[found] = next;
                        found++;
                    }
                }
            }
        }

        /** States part first by their outs, then by the classes they lead to, until none part. */
        int countClasses(int openRows) {
            Arrays.fill(classes, 0);
            int count = 1;
            for (int row = 0; row < MOST_ROWS; row++) {
                if (holds(openRows, row)) {
                    count = partByOuts(row);
                }
            }
            boolean parted = true;
            for (int pass = 0; pass < MOST_STATES && parted; pass++) {
                int before = count;
                for (int row = 0; row < MOST_ROWS; row++) {
                    if (holds(openRows, row)) {
                        count = partByNextClass(row);
                    }
                }
                parted = count != before;
            }
            return count;
        }

        private int partByOuts(int row) {
            for (int state = 0; state < MOST_STATES; state++) {
                keys[state] = outsOf(state, row);
            }
            return partByKeys();
        }

        private int partByNextClass(int row) {
            for (int state = 0; state < MOST_STATES; state++) {
                int next = stateAfter(state, row);
                keys[state] = isWithin(next, MOST_STATES) ? classes[next] : 0;
            }
            return partByKeys();
        }

        /** Reached states stay in one class if they were in one and their keys are the same. */
        private int partByKeys() {
            int count = 0;
            for (int state = 0; state < MOST_STATES; state++) {
                if (holds(reachedStates, state)) {
                    int like = firstLike(state);
                    newClasses[state] = like < state ? newClasses[like] : count;
                    count += like < state ? 0 : 1;
                }
            }
            System.arraycopy(newClasses, 0, classes, 0, MOST_STATES);
            return count;
        }

        /** The least reached state of the same class and key; the state itself if there is no other. */
        private int firstLike(int state) {
            for (int other = 0; other < state; other++) {
                boolean like = classes[other] == classes[state] && keys[other] == keys[state];
                if (like && holds(reachedStates, other)) {
                    return other;
                }
            }
            return state;
        }
    }

    /**
     * All pairs of states that the same rows lead to. They are met by fewest rows first, and
     * among as many by the least rows first, so that the first difference met is the one to show.
     */
    private static final class PairSearch {
        private final Behaviour first;
        private final Behaviour second;
        /** For each state of the first edition the set of those of the second met with it. */
        private final int[] met = new int[MOST_STATES];
        private final int[] queue = new int[MOST_PAIRS];
        private final int[] cameFrom = new int[MOST_PAIRS];
        private final int[] cameBy = new int[MOST_PAIRS];
        private int pairCount = 0;
        private int shownCount = 0;
        /** Where in the queue the last tick shown starts, and its row. */
        private int shownFrom = 0;
        private int shownLast = 0;
        private int firstOuts = NONE;
        private int secondOuts = NONE;
        private boolean known = false;

        PairSearch(Behaviour first, Behaviour second) {
            this.first = first;
            this.second = second;
        }

        void forget() {
            known = false;
        }

        void learn(int openRows) {
            if (known) {
                return;
            }
            Arrays.fill(met, 0);
            pairCount = 0;
            shownCount = 0;
            firstOuts = NONE;
            secondOuts = NONE;
            meet(0, 0, 0, 0);
            for (int head = 0; head < pairCount && head < MOST_PAIRS; head++) {
                goOnFrom(head, openRows);
            }
            known = true;
        }

        int countPairs() {
            return pairCount;
        }

        int countShown() {
            return shownCount;
        }

        /** Where each pair came from is known, so that the rows are found from the last one back. */
        int shownRow(int k) {
            if (k >= shownCount - 1) {
                return shownLast;
            }
            int at = shownFrom;
            for (int back = shownCount - 2; back > k; back--) {
                at = placeBefore(at);
            }
            return isWithin(at, MOST_PAIRS) ? cameBy[at] : NONE;
        }

        int lastOuts(int edition) {
            return edition == 0 ? firstOuts : secondOuts;
        }

        private void goOnFrom(int head, int openRows) {
            int one = queue[head] / MOST_STATES;
            int other = queue[head] % MOST_STATES;
            for (int row = 0; row < MOST_ROWS; row++) {
                if (holds(openRows, row)) {
                    if (shownCount == 0 && first.outsOf(one, row) != second.outsOf(other, row)) {
                        firstOuts = first.outsOf(one, row);
                        secondOuts = second.outsOf(other, row);
                        keepShown(head, row);
                    }
                    meet(first.stateAfter(one, row), second.stateAfter(other, row), head, row);
                }
            }
        }

        private void meet(int one, int other, int from, int row) {
            boolean isNew = isWithin(one, MOST_STATES) && !holds(met[one], other);
            if (isNew && pairCount < MOST_PAIRS) {
                met[one] |= bitOf(other);
                queue[pairCount] = one * MOST_STATES + other;
                cameFrom[pairCount] = from;
                cameBy[pairCount] = row;
                pairCount++;
            }
        }

        private void keepShown(int head, int row) {
            shownFrom = head;
            shownLast = row;
            shownCount = 1;
            for (int at = head; at > 0 && shownCount < MOST_PAIRS; at = placeBefore(at)) {
                shownCount++;
            }
        }

        /** Where in the queue the pair stands that led to the one at a place. */
        private int placeBefore(int at) {
            return isWithin(at, MOST_PAIRS) ? cameFrom[at] : 0;
        }
    }

    /** The blocks of two right editions that are matched, as far as one to one is kept. */
    private static final class Matching {
        private final Edition first;
        private final Edition second;
        private final int[] partners = new int[MOST_BLOCKS];
        private final int[] partnersBack = new int[MOST_BLOCKS];
        private final int[] queue = new int[MOST_BLOCKS];
        private int matchCount = 0;

        Matching(Edition first, Edition second) {
            this.first = first;
            this.second = second;
        }

        /** Whether both are the same by structure; only then the partners are of use. */
        boolean matchAll() {
            Arrays.fill(partners, NONE);
            Arrays.fill(partnersBack, NONE);
            matchCount = 0;
            for (int output = 0; output < OUTPUTS; output++) {
                if (!matchBoth(first.outputAt(output), second.outputAt(output))) {
                    return false;
                }
            }
            for (int head = 0; head < matchCount && head < MOST_BLOCKS; head++) {
                int block = queue[head];
                int partner = partnerOf(block);
                for (int input = 0; input < INPUTS; input++) {
                    if (!matchBoth(first.neededAt(block, input), second.neededAt(partner, input))) {
                        return false;
                    }
                }
            }
            return true;
        }

        int partnerOf(int block) {
            return isWithin(block, MOST_BLOCKS) ? partners[block] : NONE;
        }

        private boolean matchBoth(int block, int partner) {
            if (!isWithin(block, MOST_BLOCKS) || !isWithin(partner, MOST_BLOCKS)) {
                return block == partner;
            }
            if (partners[block] == partner) {
                return true;
            }
            boolean free = partners[block] == NONE && partnersBack[partner] == NONE;
            if (!free || !areOfOneSort(block, partner) || matchCount >= MOST_BLOCKS) {
                return false;
            }
            partners[block] = partner;
            partnersBack[partner] = block;
            queue[matchCount] = block;
            matchCount++;
            return true;
        }

        private boolean areOfOneSort(int block, int partner) {
            int kind = first.kindOf(block);
            boolean numberCounts = kind == POINT || kind == FIXED;
            return kind == second.kindOf(partner)
                    && (!numberCounts || first.numberOf(block) == second.numberOf(partner));
        }
    }
}
