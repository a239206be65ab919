import java.util.function.IntFunction;
import java.util.function.Supplier;

/**
 * Each sentence of the document that names a boundary case, in its own words, with a test of its
 * own: the last value on either side of each bound, the least and the greatest int, editions
 * without blocks and with 24, without delays and with five, no row barred and all of them.
 * What throwing calls have in common stands in RefusalTest.
 */
public final class BoundaryTest {
    private static final int NONE = EditionEqual.NONE;
    private static final int LEAST_INT = Integer.MIN_VALUE;
    private static final int GREATEST_INT = Integer.MAX_VALUE;
    private static final int POINT = 0;
    private static final int FIXED = 1;
    private static final int NOT = 2;
    private static final int BOTH = 3;
    private static final int EITHER = 4;
    private static final int UNLIKE = 5;
    private static final int DELAY = 6;
    private static final Class<?> ARGUMENT = IllegalArgumentException.class;
    private static final Class<?> STATE = IllegalStateException.class;

    private static int failures = 0;
    private static int sentences = 0;
    private static String words = "";

    public static void main(String[] args) {
        newObjects();
        changes();
        faults();
        ticks();
        statesReached();
        bothEditions();
        structure();
        System.out.println(failures == 0 ? sentences + " sentences hold" : failures + " answers are not as due");
        if (failures != 0) {
            System.exit(1);
        }
    }

    private static void newObjects() {
        says("use: at most 512 calls", BoundaryTest::lastOfAllCalls);
        says("1: below 1 counts as 1", () -> pointsCountAs(1, LEAST_INT, -32, -1, 0));
        says("1: P points", BoundaryTest::pointsAsTheyAre);
        says("1: above 4 as 4", () -> pointsCountAs(4, 5, 6, 8, 32, 33, 36, GREATEST_INT));
        says("1: no blocks", BoundaryTest::newWithoutBlocks);
        says("1: no row barred", BoundaryTest::newWithoutBarredRows);
        says("terms: a row's bit p (the lowest is 0) is point p's value", BoundaryTest::bitsOfRows);
    }

    private static void changes() {
        says("2: its number, 0 .. 23 as they come", BoundaryTest::numbersAsTheyCome);
        says("2: illegal argument: the kind", BoundaryTest::kindsOutOfBounds);
        says("2: of POINT no point", BoundaryTest::noSuchPoint);
        says("2: of FIXED not 0 or 1", BoundaryTest::notFixed);
        says("2: of others it is not asked", BoundaryTest::numbersNotAsked);
        says("2: there are 24", BoundaryTest::twentyFifthBlock);
        says("2: or it is the sixth DELAY", BoundaryTest::sixthDelay);
        says("2: both bounds at once", BoundaryTest::fifthDelayLastBlock);
        says("3: an input of a block", BoundaryTest::inputsOfBlocks);
        says("3: wired to a block", BoundaryTest::wiredToBlocks);
        says("3: or to none, to which it was", BoundaryTest::wiredToNone);
        says("3: also to itself", BoundaryTest::wiredToItself);
        says("4: an output", BoundaryTest::outputsInBounds);
        says("4: is a block", BoundaryTest::outputBlocksInBounds);
        says("4: or none, which it was", BoundaryTest::outputsNone);
        says("5: a row", BoundaryTest::barredRowsInBounds);
        says("5: is barred or not, whether it was", BoundaryTest::barredOrNot);
    }

    private static void faults() {
        says("6: the least block of an edition", BoundaryTest::leastWrongBlock);
        says("6: a needed input that is not wired", BoundaryTest::neededInputs);
        says("6: else one that comes back to itself", BoundaryTest::unwiredBeforeRings);
        says("6: comes back to itself", BoundaryTest::ringsOfBlocks);
        says("6: of blocks that are no DELAY", BoundaryTest::ringsThroughDelays);
        says("6: NONE: it is right", BoundaryTest::rightEditions);
    }

    private static void ticks() {
        says("7: a block's value", BoundaryTest::valueOfBlocksInBounds);
        says("7: by row", BoundaryTest::valueByRowsInBounds);
        says("7: other bits of the state are not asked", BoundaryTest::valueByOtherBits);
        says("7: also a barred row", BoundaryTest::valueByBarredRows);
        says("7: illegal state: the edition is not right", BoundaryTest::valueNotRight);
        says("8: by row", BoundaryTest::tickByRowsInBounds);
        says("8: outs from none to all", BoundaryTest::outsFromNoneToAll);
        says("8: next state from least to greatest", BoundaryTest::nextStates);
        says("8: other bits of the state are not asked", BoundaryTest::tickByOtherBits);
        says("8: also a barred row", BoundaryTest::tickByBarredRows);
        says("8: illegal state: the edition is not right", BoundaryTest::tickNotRight);
        says("terms: 0 in the first tick", BoundaryTest::delaysInFirstTick);
        says("terms: 1 if just one of them is 1", BoundaryTest::bothInputsAtOneBlock);
    }

    private static void statesReached() {
        says("9: the first state is reached", BoundaryTest::firstStateAlone);
        says("9: by a row that is not barred", BoundaryTest::reachedByOpenRows);
        says("9: from one to all 32", BoundaryTest::reachedByDelays);
        says("9: illegal state: the edition is not right", BoundaryTest::reachedNotRight);
        says("10: that has so many others before it (by number)", BoundaryTest::statesByNumber);
        says("10: NONE", BoundaryTest::statesBeyond);
        says("10: place is below 0", BoundaryTest::placesBelow);
        says("10: illegal state: the edition is not right", BoundaryTest::stateNotRight);
        says("11: one class", BoundaryTest::leastOfOneClass);
        says("11: from one to all 32", BoundaryTest::leastByDelays);
        says("11: rows without barred ones", BoundaryTest::leastByOpenRows);
        says("11: illegal state: the edition is not right", BoundaryTest::leastNotRight);
    }

    private static void bothEditions() {
        says("12: 0 if both editions are ALIKE", BoundaryTest::alike);
        says("12: how many rows are SHOWN, from one on", BoundaryTest::shownInFirstTick);
        says("12: many rows shown", BoundaryTest::manyRowsShown);
        says("12: without barred rows", BoundaryTest::comparedByOpenRows);
        says("12: illegal state: one is not right", BoundaryTest::compareNotRight);
        says("13: row k (from 0)", BoundaryTest::shownFromFirstToLast);
        says("13: the least first row, then the least second one", BoundaryTest::leastRowsFirst);
        says("13: k is below 0", BoundaryTest::shownBelow);
        says("13: if both are right there is none such", BoundaryTest::shownBeyond);
        says("13: illegal state: one is not right", BoundaryTest::shownNotRight);
        says("14: outs in the last of the ticks", BoundaryTest::lastOuts);
        says("14: NONE if both are alike", BoundaryTest::lastOfAlike);
        says("14: illegal state: one is not right", BoundaryTest::lastNotRight);
        says("15: pairs from one to all", BoundaryTest::pairsFromOneToAll);
        says("15: come to by the same rows", BoundaryTest::pairsBySameRows);
        says("15: illegal state: one is not right", BoundaryTest::pairsNotRight);
    }

    private static void structure() {
        says("16: without outputs", BoundaryTest::sameWithoutOutputs);
        says("16: the same kind", BoundaryTest::sameKinds);
        says("16: (and number, for POINT and FIXED)", BoundaryTest::sameNumbers);
        says("16: at the same needed inputs of matched ones", BoundaryTest::sameNeededInputs);
        says("16: no block is matched with two", BoundaryTest::matchedWithTwo);
        says("16: no output is a block in one edition alone", BoundaryTest::outputInOneAlone);
        says("16: illegal state: one is not right", BoundaryTest::sameNotRight);
        says("17: a block of edition 0", BoundaryTest::matchedBlocksInBounds);
        says("17: if both are the same by structure; NONE", BoundaryTest::matchedNone);
        says("17: illegal state: one is not right", BoundaryTest::matchedNotRight);
        says("18: the k-th (from 0, by numbers)", BoundaryTest::idleFromFirstToLast);
        says("18: NONE", BoundaryTest::idleBeyond);
        says("18: also if k is below 0", BoundaryTest::idleBelow);
        says("18: at a needed input of a live one", BoundaryTest::liveByNeededInputs);
        says("18: also of an edition that is not right", BoundaryTest::idleNotRight);
        says("19: how many blocks, from none to 24", BoundaryTest::blocksFromNoneToAll);
    }

    // ---- how a sentence is tested

    private static void says(String sentence, Runnable test) {
        words = sentence;
        sentences++;
        try {
            test.run();
        } catch (RuntimeException e) {
            failures++;
            System.out.println("[" + words + "] a call that is fine threw " + e);
        }
    }

    private static void due(String what, Object want, Supplier<Object> call) {
        Object got;
        try {
            got = call.get();
        } catch (RuntimeException e) {
            got = e.getClass();
        }
        if (!want.equals(got)) {
            failures++;
            System.out.println("[" + words + "] " + what + ": answered " + got + ", due is " + want);
        }
    }

    /** Numbers below and above the bounds: next to them, at the ends, and where shifts wrap around. */
    private static int[] outside(int low, int high) {
        return new int[] {LEAST_INT, LEAST_INT + 1, low - 65536, low - 32, low - 1, high + 1, low + 32, high + 32,
            low + 65536, GREATEST_INT - 1, GREATEST_INT};
    }

    private static final int[] BELOW_ZERO = {LEAST_INT, LEAST_INT + 1, -65536, -32, -2, -1};
    private static final int[] ANY_NUMBER = {LEAST_INT, -32, -2, -1, 0, 1, 2, 7, 23, 24, 32, GREATEST_INT};

    private static void dueForAll(String what, Object want, int[] numbers, IntFunction<Object> call) {
        for (int number : numbers) {
            due(what + " " + number, want, () -> call.apply(number));
        }
    }

    private static void refused(String what, int[] numbers, IntFunction<Object> call) {
        dueForAll(what, ARGUMENT, numbers, call);
    }

    // ---- what the editions are made of

    private static void addBlocks(EditionEqual x, int edition, int kind, int count) {
        for (int i = 0; i < count; i++) {
            x.block(edition, kind, 0);
        }
    }

    /** A point, and behind it 23 NOTs, each of the one before. */
    private static void addChain(EditionEqual x, int edition) {
        x.block(edition, POINT, 0);
        for (int block = 1; block < 24; block++) {
            x.block(edition, NOT, 0);
            x.wire(edition, block, 0, block - 1);
        }
    }

    /** The same in the other order of numbers: the point is the last block. */
    private static void addChainBack(EditionEqual x, int edition) {
        addBlocks(x, edition, NOT, 23);
        x.block(edition, POINT, 0);
        for (int block = 0; block < 23; block++) {
            x.wire(edition, block, 0, block + 1);
        }
    }

    /** A point, and behind it delays, each of the one before: the last one is the output. */
    private static void addShifts(EditionEqual x, int edition, int point, int delays) {
        x.block(edition, POINT, point);
        for (int block = 1; block <= delays; block++) {
            x.block(edition, DELAY, 0);
            x.wire(edition, block, 0, block - 1);
        }
        x.out(edition, 0, delays);
    }

    private static void addFixedOuts(EditionEqual x, int edition, int outs) {
        for (int output = 0; output < 3; output++) {
            x.out(edition, output, x.block(edition, FIXED, outs >> output & 1));
        }
    }

    private static int add(EditionEqual x, int edition, int kind, int first, int second) {
        int block = x.block(edition, kind, 0);
        x.wire(edition, block, 0, first);
        x.wire(edition, block, 1, second);
        return block;
    }

    private static void barAll(EditionEqual x, int rows, boolean on) {
        for (int row = 0; row < rows; row++) {
            x.bar(row, on);
        }
    }

    /** Makes a right edition wrong by one more block. */
    private static void spoil(EditionEqual x, int edition) {
        x.block(edition, NOT, 0);
    }

    private static EditionEqual spoilt(int edition) {
        EditionEqual x = new EditionEqual(1);
        addShifts(x, 0, 0, 1);
        addShifts(x, 1, 0, 2);
        spoil(x, edition);
        return x;
    }

    // ---- a new object

    /** Twelve calls make the edition; row 0 is barred and opened in turn up to the 511th. */
    private static void lastOfAllCalls() {
        EditionEqual x = new EditionEqual(1);
        addShifts(x, 0, 0, 5);
        for (int calls = 12; calls < 512; calls += 2) {
            boolean on = calls % 4 == 0;
            due("call " + (calls + 1), !on, () -> x.bar(0, on));
            due("call " + (calls + 2), on ? 1 : 0, () -> x.shown(5));
        }
    }

    private static void pointsCountAs(int points, int... given) {
        int rows = 1 << points;
        for (int number : given) {
            EditionEqual x = new EditionEqual(number);
            String name = "of " + number + " ";
            due(name + "the last point", 0, () -> x.block(0, POINT, points - 1));
            due(name + "one point more", ARGUMENT, () -> x.block(0, POINT, points));
            due(name + "the last row", false, () -> x.bar(rows - 1, true));
            due(name + "one row more", ARGUMENT, () -> x.bar(rows, true));
            due(name + "the last row's value", 1, () -> x.value(0, 0, 0, rows - 1));
            due(name + "one row more's value", ARGUMENT, () -> x.value(0, 0, 0, rows));
        }
    }

    private static void pointsAsTheyAre() {
        for (int points = 1; points <= 4; points++) {
            pointsCountAs(points, points);
        }
    }

    private static void newWithoutBlocks() {
        for (int edition = 0; edition < 2; edition++) {
            int e = edition;
            EditionEqual x = new EditionEqual(4);
            due("blocks", 0, () -> x.blocks(e));
            due("no block 0", ARGUMENT, () -> x.value(e, 0, 0, 0));
            due("nothing wrong", NONE, () -> x.wrong(e));
            due("nothing idle", NONE, () -> x.idle(e, 0));
            for (int output = 0; output < 3; output++) {
                int o = output;
                due("no output " + o, NONE, () -> x.out(e, o, NONE));
            }
            due("the first block", 0, () -> x.block(e, FIXED, 0));
            due("its input 0", NONE, () -> x.wire(e, 0, 0, 0));
            due("its input 1", NONE, () -> x.wire(e, 0, 1, 0));
        }
    }

    private static void newWithoutBarredRows() {
        for (int points = 1; points <= 4; points++) {
            EditionEqual x = new EditionEqual(points);
            for (int row = 0; row < 1 << points; row++) {
                int r = row;
                due("row " + r, false, () -> x.bar(r, false));
            }
        }
        EditionEqual y = new EditionEqual(4);
        addFixedOuts(y, 0, 1);
        due("row 0 comes", 0, () -> y.shown(0));
    }

    private static void bitsOfRows() {
        for (int points = 1; points <= 4; points++) {
            EditionEqual x = new EditionEqual(points);
            for (int point = 0; point < points; point++) {
                x.block(0, POINT, point);
                for (int row = 0; row < 1 << points; row++) {
                    int p = point;
                    int r = row;
                    due("point " + p + " in row " + r, (r >> p) % 2, () -> x.value(0, p, 0, r));
                }
            }
        }
    }

    // ---- block

    private static void numbersAsTheyCome() {
        EditionEqual x = new EditionEqual(1);
        for (int number = 0; number < 24; number++) {
            due("edition 0", number, () -> x.block(0, EITHER, 0));
            due("edition 1", number, () -> x.block(1, BOTH, 0));
        }
    }

    private static void kindsOutOfBounds() {
        EditionEqual x = new EditionEqual(1);
        refused("kind", outside(0, 6), kind -> x.block(0, kind, 0));
        due("the least kind", 0, () -> x.block(0, 0, 0));
        due("the greatest kind", 1, () -> x.block(0, 6, 0));
        due("the greatest is a DELAY", 1, () -> x.wrong(0));
        x.wire(0, 1, 0, 1);
        due("that may hang on itself", NONE, () -> x.wrong(0));
    }

    private static void noSuchPoint() {
        for (int points = 1; points <= 4; points++) {
            EditionEqual x = new EditionEqual(points);
            refused("of " + points + " point", outside(0, points - 1), number -> x.block(1, POINT, number));
            due("none of them is a block", 0, () -> x.blocks(1));
            int last = points - 1;
            due("the first point", 0, () -> x.block(1, POINT, 0));
            due("the last point", 1, () -> x.block(1, POINT, last));
        }
    }

    private static void notFixed() {
        EditionEqual x = new EditionEqual(4);
        refused("fixed", outside(0, 1), number -> x.block(0, FIXED, number));
        refused("fixed, though a point", new int[] {2, 3}, number -> x.block(0, FIXED, number));
        due("fixed 0", 0, () -> x.block(0, FIXED, 0));
        due("fixed 1", 1, () -> x.block(0, FIXED, 1));
        due("value of fixed 0", 0, () -> x.value(0, 0, 0, 0));
        due("value of fixed 1", 1, () -> x.value(0, 1, 0, 0));
    }

    private static void numbersNotAsked() {
        for (int kind = NOT; kind <= DELAY; kind++) {
            for (int number : ANY_NUMBER) {
                int k = kind;
                EditionEqual x = new EditionEqual(1);
                due("kind " + k + " with number " + number, 0, () -> x.block(0, k, number));
            }
        }
        EditionEqual y = new EditionEqual(1);
        y.block(0, DELAY, GREATEST_INT);
        y.block(0, DELAY, LEAST_INT);
        y.wire(0, 0, 0, 0);
        y.wire(0, 1, 0, 1);
        due("delays stand by their blocks' numbers", 1, () -> y.value(0, 1, 2, 0));
        due("and the first one lowest", 0, () -> y.value(0, 0, 2, 0));
    }

    private static void twentyFifthBlock() {
        for (int edition = 0; edition < 2; edition++) {
            int e = edition;
            EditionEqual x = new EditionEqual(1);
            addBlocks(x, e, UNLIKE, 23);
            due("the 24th", 23, () -> x.block(e, POINT, 0));
            for (int kind = POINT; kind <= DELAY; kind++) {
                int k = kind;
                due("the 25th, of kind " + k, STATE, () -> x.block(e, k, 0));
            }
            due("the other edition's first", 0, () -> x.block(1 - e, DELAY, 0));
            due("24 stay", 24, () -> x.blocks(e));
        }
    }

    private static void sixthDelay() {
        for (int edition = 0; edition < 2; edition++) {
            int e = edition;
            EditionEqual x = new EditionEqual(1);
            addBlocks(x, e, DELAY, 4);
            due("the fifth delay", 4, () -> x.block(e, DELAY, 0));
            due("the sixth delay", STATE, () -> x.block(e, DELAY, 0));
            due("another kind gets its number", 5, () -> x.block(e, NOT, 0));
            due("still the sixth delay", STATE, () -> x.block(e, DELAY, 0));
            addBlocks(x, 1 - e, DELAY, 4);
            due("the other edition's fifth", 4, () -> x.block(1 - e, DELAY, 0));
            due("the other edition's sixth", STATE, () -> x.block(1 - e, DELAY, 0));
        }
    }

    private static void fifthDelayLastBlock() {
        EditionEqual x = new EditionEqual(1);
        addBlocks(x, 0, DELAY, 4);
        addBlocks(x, 0, FIXED, 19);
        due("the fifth delay is the 24th block", 23, () -> x.block(0, DELAY, 0));
        due("neither one more delay", STATE, () -> x.block(0, DELAY, 0));
        due("nor another block", STATE, () -> x.block(0, FIXED, 0));
        for (int block : new int[] {0, 1, 2, 3, 23}) {
            x.wire(0, block, 0, block);
        }
        due("it is the highest bit", 1, () -> x.value(0, 23, 16, 0));
        due("of the state alone", 0, () -> x.value(0, 23, 15, 0));
    }

    // ---- wire and out

    private static void inputsOfBlocks() {
        EditionEqual x = new EditionEqual(1);
        due("of no blocks the first", ARGUMENT, () -> x.wire(0, 0, 0, NONE));
        x.block(0, NOT, 0);
        due("of one block the first", NONE, () -> x.wire(0, 0, 0, NONE));
        due("of one block the second", ARGUMENT, () -> x.wire(0, 1, 0, NONE));
        due("a block of the other edition alone", ARGUMENT, () -> x.wire(1, 0, 0, NONE));
        addBlocks(x, 1, FIXED, 24);
        for (int input = 0; input < 2; input++) {
            int i = input;
            refused("input " + i + " of block", outside(0, 23), block -> x.wire(1, block, i, 0));
            due("the first block", NONE, () -> x.wire(1, 0, i, 0));
            due("the last block", NONE, () -> x.wire(1, 23, i, 0));
        }
        refused("input", outside(0, 1), input -> x.wire(1, 0, input, 0));
        refused("input of the last block", outside(0, 1), input -> x.wire(1, 23, input, 0));
    }

    private static void wiredToBlocks() {
        EditionEqual x = new EditionEqual(1);
        x.block(0, NOT, 0);
        addBlocks(x, 1, NOT, 24);
        refused("of one block to", outside(-1, 0), to -> x.wire(0, 0, 0, to));
        due("to a block of the other edition alone", ARGUMENT, () -> x.wire(0, 0, 0, 23));
        refused("of 24 blocks to", outside(-1, 23), to -> x.wire(1, 0, 0, to));
        due("nothing was wired", NONE, () -> x.wire(1, 0, 0, 23));
        due("to the last block", 23, () -> x.wire(1, 0, 0, 0));
        due("to the first block", 0, () -> x.wire(1, 0, 0, 0));
    }

    private static void wiredToNone() {
        EditionEqual x = new EditionEqual(1);
        addBlocks(x, 0, UNLIKE, 24);
        for (int input = 0; input < 2; input++) {
            int i = input;
            due("at first none", NONE, () -> x.wire(0, 23, i, NONE));
            due("still none", NONE, () -> x.wire(0, 23, i, 5 + i));
            due("a block", 5 + i, () -> x.wire(0, 23, i, NONE));
            due("none again", NONE, () -> x.wire(0, 23, i, 6 + i));
        }
        due("input 0 is its own", 6, () -> x.wire(0, 23, 0, NONE));
        due("input 1 is its own", 7, () -> x.wire(0, 23, 1, NONE));
        due("the block before is its own", NONE, () -> x.wire(0, 22, 1, NONE));
    }

    private static void wiredToItself() {
        EditionEqual x = new EditionEqual(1);
        for (int kind = POINT; kind <= DELAY; kind++) {
            int k = kind;
            x.block(0, k, 0);
            due("input 0 of kind " + k, NONE, () -> x.wire(0, k, 0, k));
            due("input 1 of kind " + k, NONE, () -> x.wire(0, k, 1, k));
            due("input 0 of kind " + k + " was", k, () -> x.wire(0, k, 0, NONE));
            due("input 1 of kind " + k + " was", k, () -> x.wire(0, k, 1, NONE));
        }
    }

    private static void outputsInBounds() {
        EditionEqual x = new EditionEqual(1);
        x.block(0, FIXED, 1);
        refused("output", outside(0, 2), output -> x.out(0, output, 0));
        refused("output to none", outside(0, 2), output -> x.out(0, output, NONE));
        due("no output came of them", 0, () -> x.tick(0, 0, 0));
        due("the first output", NONE, () -> x.out(0, 0, 0));
        due("the last output", NONE, () -> x.out(0, 2, 0));
        due("both are", 5, () -> x.tick(0, 0, 0));
    }

    private static void outputBlocksInBounds() {
        EditionEqual x = new EditionEqual(1);
        due("of no blocks the first", ARGUMENT, () -> x.out(0, 0, 0));
        x.block(0, FIXED, 1);
        due("of one block the second", ARGUMENT, () -> x.out(0, 0, 1));
        due("a block of the other edition alone", ARGUMENT, () -> x.out(1, 0, 0));
        addBlocks(x, 1, FIXED, 24);
        refused("of 24 blocks", outside(-1, 23), block -> x.out(1, 0, block));
        due("none of them is it", NONE, () -> x.out(1, 0, 23));
        due("the last block", 23, () -> x.out(1, 0, 0));
        due("the first block", 0, () -> x.out(1, 0, 0));
    }

    private static void outputsNone() {
        EditionEqual x = new EditionEqual(1);
        due("none without blocks", NONE, () -> x.out(0, 2, NONE));
        addBlocks(x, 0, FIXED, 3);
        for (int output = 0; output < 3; output++) {
            int o = output;
            due("none at first", NONE, () -> x.out(0, o, o));
            due("a block", o, () -> x.out(0, o, NONE));
            due("none again", NONE, () -> x.out(0, o, 2 - o));
        }
        due("outputs are their own", 2, () -> x.out(0, 0, NONE));
        due("outputs are their own", 1, () -> x.out(0, 1, NONE));
        due("outputs are their own", 0, () -> x.out(0, 2, NONE));
        due("editions are their own", NONE, () -> x.out(1, 2, NONE));
    }

    // ---- bar

    private static void barredRowsInBounds() {
        for (int points = 1; points <= 4; points++) {
            EditionEqual x = new EditionEqual(points);
            int last = (1 << points) - 1;
            refused("of " + points + " points on row", outside(0, last), row -> x.bar(row, true));
            refused("of " + points + " points off row", outside(0, last), row -> x.bar(row, false));
            due("the first row", false, () -> x.bar(0, true));
            due("the last row", false, () -> x.bar(last, true));
        }
    }

    private static void barredOrNot() {
        EditionEqual x = new EditionEqual(4);
        for (int row = 0; row < 16; row++) {
            int r = row;
            due("row " + r + " open", false, () -> x.bar(r, true));
            due("row " + r + " barred", true, () -> x.bar(r, true));
        }
        for (int row = 15; row >= 0; row--) {
            int r = row;
            due("row " + r + " of all barred", true, () -> x.bar(r, false));
            due("row " + r + " open again", false, () -> x.bar(r, false));
        }
    }

    // ---- wrong

    private static void leastWrongBlock() {
        EditionEqual x = new EditionEqual(1);
        addBlocks(x, 1, NOT, 24);
        for (int block = 0; block < 24; block++) {
            int b = block;
            due("unwired from " + b + " on", b, () -> x.wrong(1));
            x.wire(1, b, 0, 23);
        }
        due("then the last comes back", 23, () -> x.wrong(1));
        due("the other edition is right", NONE, () -> x.wrong(0));
    }

    private static void neededInputs() {
        int[] needed = {0, 0, 1, 2, 2, 2, 1};
        for (int kind = POINT; kind <= DELAY; kind++) {
            EditionEqual x = new EditionEqual(1);
            addBlocks(x, 0, FIXED, 23);
            x.block(0, kind, 0);
            String name = "kind " + kind;
            int withNone = needed[kind] > 0 ? 23 : NONE;
            int withFirst = needed[kind] > 1 ? 23 : NONE;
            due(name + " with none", withNone, () -> x.wrong(0));
            x.wire(0, 23, 1, 0);
            due(name + " with input 1", withNone, () -> x.wrong(0));
            x.wire(0, 23, 0, 0);
            due(name + " with both", NONE, () -> x.wrong(0));
            x.wire(0, 23, 1, NONE);
            due(name + " with input 0", withFirst, () -> x.wrong(0));
        }
    }

    private static void unwiredBeforeRings() {
        EditionEqual x = new EditionEqual(1);
        addBlocks(x, 0, NOT, 24);
        for (int block = 0; block < 23; block++) {
            x.wire(0, block, 0, block);
        }
        due("the last is not wired, the first comes back", 23, () -> x.wrong(0));
        x.wire(0, 23, 0, 0);
        due("all are wired", 0, () -> x.wrong(0));
    }

    private static void ringsOfBlocks() {
        EditionEqual x = new EditionEqual(1);
        addChain(x, 0);
        due("a chain of 24", NONE, () -> x.wrong(0));
        x.wire(0, 0, 0, 23);
        due("a point needs no input", NONE, () -> x.wrong(0));
        x.wire(0, 1, 0, 23);
        due("a ring of 23", 1, () -> x.wrong(0));
        x.wire(0, 1, 0, 0);
        x.wire(0, 23, 0, 23);
        due("the last comes back, none other", 23, () -> x.wrong(0));
        x.wire(0, 1, 0, 23);
        due("those that lead there do not come back", 23, () -> x.wrong(0));
        EditionEqual y = new EditionEqual(1);
        addBlocks(y, 0, NOT, 24);
        for (int block = 0; block < 24; block++) {
            y.wire(0, block, 0, (block + 1) % 24);
        }
        due("a ring of 24", 0, () -> y.wrong(0));
        ringsByInput();
    }

    private static void ringsByInput() {
        for (int kind = NOT; kind <= DELAY; kind++) {
            for (int input = 0; input < 2; input++) {
                EditionEqual x = new EditionEqual(1);
                x.block(0, FIXED, 0);
                x.block(0, kind, 0);
                x.wire(0, 1, 1 - input, 0);
                x.wire(0, 1, input, 1);
                int want = isNeeded(kind, input) && kind != DELAY ? 1 : NONE;
                due("kind " + kind + " by input " + input, want, () -> x.wrong(0));
            }
        }
    }

    private static void ringsThroughDelays() {
        EditionEqual x = new EditionEqual(1);
        addBlocks(x, 0, DELAY, 1);
        x.wire(0, 0, 0, 0);
        due("a delay of itself", NONE, () -> x.wrong(0));
        addBlocks(x, 0, DELAY, 4);
        for (int block = 0; block < 5; block++) {
            x.wire(0, block, 0, (block + 1) % 5);
        }
        due("a ring of five delays", NONE, () -> x.wrong(0));
        EditionEqual y = new EditionEqual(1);
        addBlocks(y, 0, NOT, 23);
        y.block(0, DELAY, 0);
        for (int block = 0; block < 24; block++) {
            y.wire(0, block, 0, (block + 1) % 24);
        }
        due("a ring of 24 through one delay", NONE, () -> y.wrong(0));
        y.wire(0, 22, 0, 0);
        due("a ring beside the delay", 0, () -> y.wrong(0));
    }

    private static void rightEditions() {
        for (int edition = 0; edition < 2; edition++) {
            int e = edition;
            EditionEqual x = new EditionEqual(1);
            due("without blocks", NONE, () -> x.wrong(e));
            addChain(x, e);
            due("with 24", NONE, () -> x.wrong(e));
            barAll(x, 2, true);
            due("with all rows barred", NONE, () -> x.wrong(e));
            spoil(x, 1 - e);
            due("beside a wrong one", NONE, () -> x.wrong(e));
        }
    }

    // ---- value and tick

    private static void valueOfBlocksInBounds() {
        EditionEqual x = new EditionEqual(1);
        due("of no blocks the first", ARGUMENT, () -> x.value(0, 0, 0, 0));
        addChain(x, 0);
        refused("of 24 block", outside(0, 23), block -> x.value(0, block, 0, 0));
        refused("of the other edition block", new int[] {NONE, 0, 1, 23}, block -> x.value(1, block, 0, 0));
        due("the first block", 1, () -> x.value(0, 0, 0, 1));
        due("the last block, behind 23 NOTs", 0, () -> x.value(0, 23, 0, 1));
        due("the last block, behind 23 NOTs", 1, () -> x.value(0, 23, 0, 0));
        addChainBack(x, 1);
        due("the first block, behind 23 NOTs", 0, () -> x.value(1, 0, 0, 1));
        due("the first block, behind 23 NOTs", 1, () -> x.value(1, 0, 0, 0));
        due("the last block", 1, () -> x.value(1, 23, 0, 1));
    }

    private static void valueByRowsInBounds() {
        for (int points = 1; points <= 4; points++) {
            EditionEqual x = new EditionEqual(points);
            int last = (1 << points) - 1;
            x.block(0, POINT, points - 1);
            refused("of " + points + " points by row", outside(0, last), row -> x.value(0, 0, 0, row));
            due("by the first row", 0, () -> x.value(0, 0, 0, 0));
            due("by the last row", 1, () -> x.value(0, 0, 0, last));
        }
    }

    private static void valueByOtherBits() {
        for (int delays = 0; delays <= 5; delays++) {
            EditionEqual x = new EditionEqual(1);
            addShifts(x, 0, 0, delays);
            int last = delays;
            int others = -1 << delays;
            for (int delay = 1; delay <= delays; delay++) {
                int d = delay;
                int own = 1 << (d - 1);
                String name = "of " + delays + " delays the one at " + d + " by state";
                int[] on = {own, own | others, own | LEAST_INT, -1};
                int[] off = {0, others, LEAST_INT, ~own};
                dueForAll(name, 1, on, state -> x.value(0, d, state, 0));
                dueForAll(name, 0, off, state -> x.value(0, d, state, 0));
            }
            dueForAll("a point by state", 1, ANY_NUMBER, state -> x.value(0, 0, state, 1));
            for (int bit = delays; bit < 32; bit++) {
                int state = 1 << bit;
                due("of " + delays + " delays the last by state " + state, 0, () -> x.value(0, last, state, 0));
            }
        }
    }

    private static void valueByBarredRows() {
        EditionEqual x = new EditionEqual(4);
        addShifts(x, 0, 3, 5);
        barAll(x, 16, true);
        due("the first row", 0, () -> x.value(0, 0, 0, 0));
        due("the last row", 1, () -> x.value(0, 0, 0, 15));
        due("a state that is not reached", 1, () -> x.value(0, 5, 16, 15));
    }

    private static void valueNotRight() {
        for (int edition = 0; edition < 2; edition++) {
            int e = edition;
            EditionEqual x = spoilt(e);
            due("a block that is wired", STATE, () -> x.value(e, 0, 0, 0));
            due("the other edition is", 1, () -> x.value(1 - e, 0, 0, 1));
            x.wire(e, x.blocks(e) - 1, 0, x.blocks(e) - 1);
            due("one comes back to itself", STATE, () -> x.value(e, 0, 0, 0));
            x.wire(e, x.blocks(e) - 1, 0, 0);
            due("mended", 1, () -> x.value(e, 0, 0, 1));
        }
    }

    private static void tickByRowsInBounds() {
        for (int points = 1; points <= 4; points++) {
            EditionEqual x = new EditionEqual(points);
            int last = (1 << points) - 1;
            due("without blocks by the last row", 0, () -> x.tick(0, 0, last));
            due("without blocks by no row", ARGUMENT, () -> x.tick(0, 0, last + 1));
            x.out(0, 0, x.block(0, POINT, points - 1));
            refused("of " + points + " points by row", outside(0, last), row -> x.tick(0, 0, row));
            due("by the first row", 0, () -> x.tick(0, 0, 0));
            due("by the last row", 1, () -> x.tick(0, 0, last));
        }
    }

    private static void outsFromNoneToAll() {
        for (int outs = 0; outs < 8; outs++) {
            EditionEqual x = new EditionEqual(1);
            addFixedOuts(x, 1, outs);
            due("fixed outs", outs, () -> x.tick(1, 0, 0));
        }
        EditionEqual y = new EditionEqual(1);
        addFixedOuts(y, 0, 7);
        for (int output = 0; output < 3; output++) {
            y.out(0, output, NONE);
            due("output " + output + " without a block", 7 - (1 << output), () -> y.tick(0, 0, 1));
            y.out(0, output, output);
        }
    }

    private static void nextStates() {
        for (int delays = 0; delays <= 5; delays++) {
            EditionEqual x = new EditionEqual(1);
            x.block(0, POINT, 0);
            for (int block = 1; block <= delays; block++) {
                x.block(0, DELAY, 0);
                x.wire(0, block, 0, 0);
            }
            int greatest = (1 << delays) - 1;
            due(delays + " delays, the least", 0, () -> x.tick(0, greatest, 0));
            due(delays + " delays, the greatest", 8 * greatest, () -> x.tick(0, 0, 1));
        }
        EditionEqual y = new EditionEqual(1);
        addShifts(y, 0, 0, 5);
        addFixedOuts(y, 0, 7);
        due("the greatest answer", 7 + 8 * 31, () -> y.tick(0, 31, 1));
        due("the first delay is the lowest", 7 + 8 * 1, () -> y.tick(0, 0, 1));
        due("the last delay is the highest", 7 + 8 * 16, () -> y.tick(0, 8, 0));
    }

    private static void tickByOtherBits() {
        for (int delays = 0; delays <= 5; delays++) {
            EditionEqual x = new EditionEqual(1);
            addShifts(x, 0, 0, delays);
            int greatest = (1 << delays) - 1;
            int others = ~greatest;
            due(delays + " delays by all bits", 1 + 8 * greatest, () -> x.tick(0, -1, 1));
            due(delays + " delays by the greatest int", 1 + 8 * greatest, () -> x.tick(0, GREATEST_INT, 1));
            due(delays + " delays by other bits alone", 0, () -> x.tick(0, others, 0));
            due(delays + " delays by the least int", 0, () -> x.tick(0, LEAST_INT, 0));
            for (int bit = delays; bit < 32; bit++) {
                int state = 1 << bit;
                due(delays + " delays by state " + state, 0, () -> x.tick(0, state, 0));
            }
        }
    }

    private static void tickByBarredRows() {
        EditionEqual x = new EditionEqual(4);
        addShifts(x, 0, 3, 5);
        barAll(x, 16, true);
        due("the first row", 0, () -> x.tick(0, 0, 0));
        due("the last row", 8, () -> x.tick(0, 0, 15));
        due("a state that is not reached", 1 + 8 * 31, () -> x.tick(0, 31, 15));
    }

    private static void tickNotRight() {
        for (int edition = 0; edition < 2; edition++) {
            int e = edition;
            EditionEqual x = spoilt(e);
            due("wrong", STATE, () -> x.tick(e, 0, 0));
            due("the other edition is not", 8, () -> x.tick(1 - e, 0, 1));
            x.wire(e, x.blocks(e) - 1, 0, x.blocks(e) - 1);
            due("one comes back to itself", STATE, () -> x.tick(e, 0, 0));
            x.wire(e, x.blocks(e) - 1, 0, 0);
            due("mended", 8, () -> x.tick(e, 0, 1));
        }
    }

    private static void delaysInFirstTick() {
        for (int delays = 1; delays <= 5; delays++) {
            EditionEqual x = new EditionEqual(1);
            addShifts(x, 0, 0, delays);
            x.wire(0, 1, 0, x.block(0, FIXED, 1));
            x.out(1, 0, x.block(1, FIXED, 1));
            due(delays + " delays of 1 and 1 itself", 1, () -> x.compare());
            due("the last delay tells", 0, () -> x.last(0));
            x.out(1, 0, NONE);
            due(delays + " delays of 1 and 0", delays + 1, () -> x.compare());
            due("then the last delay tells", 1, () -> x.last(0));
        }
    }

    private static void bothInputsAtOneBlock() {
        EditionEqual x = new EditionEqual(1);
        x.block(0, POINT, 0);
        int[][] wantByKind = {{BOTH, 0, 1}, {EITHER, 0, 1}, {UNLIKE, 0, 0}};
        for (int[] want : wantByKind) {
            int block = add(x, 0, want[0], 0, 0);
            due("kind " + want[0] + " of 0 and 0", want[1], () -> x.value(0, block, 0, 0));
            due("kind " + want[0] + " of 1 and 1", want[2], () -> x.value(0, block, 0, 1));
        }
    }

    // ---- reached, state, least

    private static void firstStateAlone() {
        EditionEqual x = new EditionEqual(1);
        due("without blocks", 1, () -> x.reached(0));
        addChain(x, 0);
        due("24 blocks without delays", 1, () -> x.reached(0));
        EditionEqual y = new EditionEqual(4);
        addShifts(y, 0, 3, 5);
        barAll(y, 16, true);
        due("five delays, all rows barred", 1, () -> y.reached(0));
        due("it is state 0", 0, () -> y.state(0, 0));
    }

    private static void reachedByOpenRows() {
        EditionEqual x = new EditionEqual(4);
        addShifts(x, 0, 3, 5);
        due("no row barred", 32, () -> x.reached(0));
        barAll(x, 8, true);
        due("rows with the point alone", 6, () -> x.reached(0));
        due("the last one", 31, () -> x.state(0, 5));
        barAll(x, 16, true);
        for (int row = 0; row < 16; row++) {
            x.bar(row, false);
            due("row " + row + " alone", row < 8 ? 1 : 6, () -> x.reached(0));
            x.bar(row, true);
        }
    }

    private static void reachedByDelays() {
        for (int delays = 0; delays <= 5; delays++) {
            EditionEqual x = new EditionEqual(1);
            addShifts(x, 1, 0, delays);
            due("by " + delays + " delays", 1 << delays, () -> x.reached(1));
            due("of the other edition", 1, () -> x.reached(0));
        }
    }

    private static void reachedNotRight() {
        for (int edition = 0; edition < 2; edition++) {
            int e = edition;
            EditionEqual x = spoilt(e);
            due("wrong", STATE, () -> x.reached(e));
            due("the other edition", e == 0 ? 4 : 2, () -> x.reached(1 - e));
        }
    }

    /** The last delay is fed by the point, the middle one by it, the first by that: found in other order. */
    private static void statesByNumber() {
        EditionEqual x = new EditionEqual(1);
        x.block(0, POINT, 0);
        addBlocks(x, 0, DELAY, 5);
        int[] from = {3, 2, 5, 4, 0};
        for (int block = 1; block <= 5; block++) {
            x.wire(0, block, 0, from[block - 1]);
        }
        int[] want = {0, 1, 4, 5, 16, 17, 20, 21, NONE};
        for (int place = 0; place < want.length; place++) {
            int p = place;
            due("place " + p, want[p], () -> x.state(0, p));
        }
    }

    private static void statesBeyond() {
        int[] far = {33, 64, 65536, GREATEST_INT - 1, GREATEST_INT};
        for (int delays = 0; delays <= 5; delays++) {
            EditionEqual x = new EditionEqual(1);
            int count = 1 << delays;
            addShifts(x, 0, 0, delays);
            due("the first place", 0, () -> x.state(0, 0));
            due("the last place", count - 1, () -> x.state(0, count - 1));
            due("one place more", NONE, () -> x.state(0, count));
            dueForAll("place", NONE, far, place -> x.state(0, place));
            barAll(x, 2, true);
            due("all rows barred, the first place", 0, () -> x.state(0, 0));
            due("all rows barred, the second place", NONE, () -> x.state(0, 1));
        }
        EditionEqual y = new EditionEqual(1);
        due("without blocks, the first place", 0, () -> y.state(0, 0));
        due("without blocks, the second place", NONE, () -> y.state(0, 1));
    }

    private static void placesBelow() {
        EditionEqual x = new EditionEqual(1);
        refused("without blocks place", BELOW_ZERO, place -> x.state(0, place));
        addShifts(x, 0, 0, 5);
        refused("with five delays place", BELOW_ZERO, place -> x.state(0, place));
        EditionEqual y = spoilt(0);
        refused("not right, place", BELOW_ZERO, place -> y.state(0, place));
    }

    private static void stateNotRight() {
        for (int edition = 0; edition < 2; edition++) {
            int e = edition;
            EditionEqual x = spoilt(e);
            dueForAll("wrong, place", STATE, new int[] {0, 1, 31, 32, GREATEST_INT}, place -> x.state(e, place));
            due("the other edition", 1, () -> x.state(1 - e, 1));
        }
    }

    private static void leastOfOneClass() {
        EditionEqual x = new EditionEqual(1);
        due("without blocks", 1, () -> x.least(0));
        addShifts(x, 0, 0, 5);
        x.out(0, 0, NONE);
        due("32 states without outputs", 1, () -> x.least(0));
        x.out(0, 0, 0);
        due("32 states, a point is the output", 1, () -> x.least(0));
        EditionEqual y = new EditionEqual(1);
        addShifts(y, 0, 0, 5);
        barAll(y, 2, true);
        due("all rows barred", 1, () -> y.least(0));
        EditionEqual z = new EditionEqual(1);
        addChain(z, 1);
        z.out(1, 0, 23);
        due("24 blocks without delays", 1, () -> z.least(1));
    }

    private static void leastByDelays() {
        for (int delays = 0; delays <= 5; delays++) {
            EditionEqual x = new EditionEqual(1);
            addShifts(x, 1, 0, delays);
            due("by " + delays + " delays", 1 << delays, () -> x.least(1));
            x.out(1, 0, Math.min(1, delays));
            due("the first delay is the output", delays == 0 ? 1 : 2, () -> x.least(1));
        }
    }

    /** The last delay is seen only while the highest point is on. */
    private static void leastByOpenRows() {
        EditionEqual x = new EditionEqual(4);
        addShifts(x, 0, 0, 5);
        int high = x.block(0, POINT, 3);
        x.out(0, 0, add(x, 0, BOTH, 5, high));
        due("no row barred", 32, () -> x.least(0));
        for (int row = 8; row < 15; row++) {
            x.bar(row, true);
        }
        due("the last row alone tells", 32, () -> x.least(0));
        x.bar(15, true);
        due("no row tells", 1, () -> x.least(0));
        due("all are reached", 32, () -> x.reached(0));
        x.bar(8, false);
        due("row 8 alone tells", 32, () -> x.least(0));
        x.out(0, 0, add(x, 0, BOTH, 5, add(x, 0, NOT, high, NONE)));
        for (int row = 2; row < 8; row++) {
            x.bar(row, true);
        }
        x.bar(9, false);
        due("rows 0 and 1 tell", 32, () -> x.least(0));
        x.bar(1, true);
        due("row 0 alone tells", 32, () -> x.least(0));
        x.bar(0, true);
        due("no row tells again", 1, () -> x.least(0));
    }

    private static void leastNotRight() {
        for (int edition = 0; edition < 2; edition++) {
            int e = edition;
            EditionEqual x = spoilt(e);
            due("wrong", STATE, () -> x.least(e));
            due("the other edition", e == 0 ? 4 : 2, () -> x.least(1 - e));
        }
    }

    // ---- compare, shown, last, pairs

    private static void alike() {
        EditionEqual x = new EditionEqual(4);
        due("without blocks", 0, () -> x.compare());
        addFixedOuts(x, 0, 0);
        due("outs of 0 and none", 0, () -> x.compare());
        EditionEqual y = new EditionEqual(1);
        addChain(y, 0);
        y.out(0, 2, 22);
        y.out(1, 2, y.block(1, POINT, 0));
        due("22 NOTs and none", 0, () -> y.compare());
        EditionEqual z = new EditionEqual(1);
        addShifts(z, 0, 0, 5);
        addShifts(z, 1, 0, 5);
        due("five delays each", 0, () -> z.compare());
        EditionEqual all = new EditionEqual(4);
        addFixedOuts(all, 0, 7);
        barAll(all, 16, true);
        due("other outs, but all rows barred", 0, () -> all.compare());
    }

    private static void shownInFirstTick() {
        for (int output = 0; output < 3; output++) {
            EditionEqual x = new EditionEqual(4);
            addFixedOuts(x, output % 2, 1 << output);
            due("output " + output, 1, () -> x.compare());
        }
    }

    /**
     * Edition 0 has its output on in each 31st tick, edition 1 in its 31st tick and then in each
     * 32nd: they part in the 62nd.
     */
    private static EditionEqual partingLate() {
        EditionEqual x = new EditionEqual(1);
        addBlocks(x, 0, DELAY, 5);
        x.wire(0, 0, 0, add(x, 0, NOT, add(x, 0, UNLIKE, 4, 2), NONE));
        for (int block = 1; block < 5; block++) {
            x.wire(0, block, 0, block - 1);
        }
        int state = 0;
        for (int tick = 0; tick < 30; tick++) {
            state = x.tick(0, state, 0) / 8;
        }
        x.out(0, 0, addIsState(x, 0, state));
        addBlocks(x, 1, DELAY, 5);
        x.wire(1, 0, 0, add(x, 1, NOT, 0, NONE));
        int carry = 0;
        for (int block = 1; block < 5; block++) {
            x.wire(1, block, 0, add(x, 1, UNLIKE, block, carry));
            carry = block < 4 ? add(x, 1, BOTH, block, carry) : carry;
        }
        x.out(1, 0, addIsState(x, 1, 30));
        return x;
    }

    /** A block that is on in one state of five delays, which are blocks 0 to 4, alone. */
    private static int addIsState(EditionEqual x, int edition, int state) {
        int found = x.block(edition, FIXED, 1);
        for (int delay = 0; delay < 5; delay++) {
            boolean on = (state >> delay & 1) != 0;
            found = add(x, edition, BOTH, found, on ? delay : add(x, edition, NOT, delay, NONE));
        }
        return found;
    }

    private static void manyRowsShown() {
        EditionEqual x = partingLate();
        due("31 states", 31, () -> x.reached(0));
        due("32 states", 32, () -> x.reached(1));
        due("rows shown", 62, () -> x.compare());
        due("all rows are 0", 0, () -> x.shown(61));
        due("pairs", 31 * 32, () -> x.pairs());
        x.bar(0, true);
        due("rows shown without row 0", 62, () -> x.compare());
        due("all rows are 1", 1, () -> x.shown(0));
        due("all rows are 1", 1, () -> x.shown(61));
    }

    private static void comparedByOpenRows() {
        EditionEqual x = new EditionEqual(4);
        addFixedOuts(x, 1, 4);
        barAll(x, 16, true);
        for (int row = 0; row < 16; row++) {
            int r = row;
            x.bar(r, false);
            due("row " + r + " alone", 1, () -> x.compare());
            due("row " + r + " alone is shown", r, () -> x.shown(0));
            x.bar(r, true);
        }
        due("no row", 0, () -> x.compare());
    }

    private static void compareNotRight() {
        for (int edition = 0; edition < 2; edition++) {
            EditionEqual x = spoilt(edition);
            due("edition " + edition, STATE, () -> x.compare());
            spoil(x, 1 - edition);
            due("both", STATE, () -> x.compare());
        }
    }

    private static void shownFromFirstToLast() {
        EditionEqual x = new EditionEqual(1);
        addShifts(x, 0, 0, 4);
        addShifts(x, 1, 0, 5);
        int[] rows = {1, 0, 0, 0, 0};
        due("rows", 5, () -> x.compare());
        for (int k = 0; k < 5; k++) {
            int at = k;
            due("row " + at, rows[at], () -> x.shown(at));
        }
        due("one row more", ARGUMENT, () -> x.shown(5));
    }

    /** Rows 1 and 3 show the difference, and so do rows 2 and 0. */
    private static void leastRowsFirst() {
        EditionEqual x = new EditionEqual(2);
        int low = x.block(0, POINT, 0);
        int high = x.block(0, POINT, 1);
        int notLow = add(x, 0, NOT, low, NONE);
        int notHigh = add(x, 0, NOT, high, NONE);
        int behindOne = add(x, 0, DELAY, add(x, 0, BOTH, low, notHigh), NONE);
        int behindTwo = add(x, 0, DELAY, add(x, 0, BOTH, high, notLow), NONE);
        int byThree = add(x, 0, BOTH, behindOne, add(x, 0, BOTH, low, high));
        int byZero = add(x, 0, BOTH, behindTwo, add(x, 0, BOTH, notLow, notHigh));
        x.out(0, 1, add(x, 0, EITHER, byThree, byZero));
        due("rows", 2, () -> x.compare());
        due("the least first row", 1, () -> x.shown(0));
        due("the second row behind it", 3, () -> x.shown(1));
        x.bar(3, true);
        due("the other first row", 2, () -> x.shown(0));
        due("the other second row", 0, () -> x.shown(1));
        x.out(0, 1, add(x, 0, EITHER, byThree, behindTwo));
        x.bar(3, false);
        x.bar(0, true);
        due("least first row before second one", 1, () -> x.shown(0));
        x.bar(1, true);
        due("least second row left", 2, () -> x.shown(1));
        x.bar(0, false);
        due("least second row", 0, () -> x.shown(1));
    }

    private static void shownBelow() {
        EditionEqual x = new EditionEqual(1);
        refused("alike, row", BELOW_ZERO, k -> x.shown(k));
        addFixedOuts(x, 0, 7);
        refused("not alike, row", BELOW_ZERO, k -> x.shown(k));
        for (int edition = 0; edition < 2; edition++) {
            EditionEqual y = spoilt(edition);
            refused("not right, row", BELOW_ZERO, k -> y.shown(k));
        }
    }

    private static void shownBeyond() {
        int[] far = {1, 2, 31, 32, 1023, 1024, 65536, GREATEST_INT - 1, GREATEST_INT};
        EditionEqual x = new EditionEqual(1);
        due("alike, the first row", ARGUMENT, () -> x.shown(0));
        refused("alike, row", far, k -> x.shown(k));
        addFixedOuts(x, 0, 7);
        due("one row, the first", 0, () -> x.shown(0));
        refused("one row, row", far, k -> x.shown(k));
        barAll(x, 2, true);
        due("all rows barred, the first row", ARGUMENT, () -> x.shown(0));
        EditionEqual y = partingLate();
        due("the last of 62", 0, () -> y.shown(61));
        due("one more than 62", ARGUMENT, () -> y.shown(62));
    }

    private static void shownNotRight() {
        int[] any = {0, 1, 2, 3, 62, 1024, GREATEST_INT};
        for (int edition = 0; edition < 2; edition++) {
            EditionEqual x = spoilt(edition);
            dueForAll("edition " + edition + ", row", STATE, any, k -> x.shown(k));
        }
    }

    private static void lastOuts() {
        for (int outs = 1; outs < 8; outs++) {
            EditionEqual x = new EditionEqual(1);
            addFixedOuts(x, 1, outs);
            due("outs of none", 0, () -> x.last(0));
            due("outs of the other", outs, () -> x.last(1));
        }
        EditionEqual y = partingLate();
        due("behind 62 rows, edition 0", 1, () -> y.last(0));
        due("behind 62 rows, edition 1", 0, () -> y.last(1));
    }

    private static void lastOfAlike() {
        EditionEqual x = new EditionEqual(4);
        due("without blocks, edition 0", NONE, () -> x.last(0));
        due("without blocks, edition 1", NONE, () -> x.last(1));
        addFixedOuts(x, 0, 7);
        addFixedOuts(x, 1, 7);
        due("both 7, edition 0", NONE, () -> x.last(0));
        due("both 7, edition 1", NONE, () -> x.last(1));
        x.out(0, 2, NONE);
        due("3 and 7", 3, () -> x.last(0));
        barAll(x, 16, true);
        due("all rows barred, edition 0", NONE, () -> x.last(0));
        due("all rows barred, edition 1", NONE, () -> x.last(1));
    }

    private static void lastNotRight() {
        for (int edition = 0; edition < 2; edition++) {
            EditionEqual x = spoilt(edition);
            due("of edition 0", STATE, () -> x.last(0));
            due("of edition 1", STATE, () -> x.last(1));
        }
    }

    private static void pairsFromOneToAll() {
        EditionEqual x = new EditionEqual(4);
        due("without blocks", 1, () -> x.pairs());
        addShifts(x, 0, 0, 5);
        due("32 states and one", 32, () -> x.pairs());
        addShifts(x, 1, 1, 5);
        due("all pairs", 1024, () -> x.pairs());
        barAll(x, 16, true);
        due("all rows barred", 1, () -> x.pairs());
        EditionEqual y = new EditionEqual(1);
        addChain(y, 0);
        addChain(y, 1);
        due("24 blocks without delays", 1, () -> y.pairs());
    }

    private static void pairsBySameRows() {
        EditionEqual x = new EditionEqual(1);
        addShifts(x, 0, 0, 5);
        addShifts(x, 1, 0, 5);
        due("each state with its like alone", 32, () -> x.pairs());
        EditionEqual y = new EditionEqual(4);
        addShifts(y, 0, 0, 5);
        addShifts(y, 1, 1, 5);
        for (int row = 0; row < 16; row++) {
            y.bar(row, (row & 1) != (row >> 1 & 1));
        }
        due("rows with both points alike alone", 32, () -> y.pairs());
    }

    private static void pairsNotRight() {
        for (int edition = 0; edition < 2; edition++) {
            EditionEqual x = spoilt(edition);
            due("edition " + edition, STATE, () -> x.pairs());
        }
    }

    // ---- same, matched, idle, blocks

    private static void sameWithoutOutputs() {
        EditionEqual x = new EditionEqual(1);
        due("without blocks", true, () -> x.same());
        addChain(x, 0);
        due("24 blocks and none", true, () -> x.same());
        due("they are not matched", NONE, () -> x.matched(0));
        addChain(x, 1);
        x.out(0, 0, 23);
        x.out(1, 0, 23);
        barAll(x, 2, true);
        due("24 blocks each, all rows barred", true, () -> x.same());
        due("the last one", 23, () -> x.matched(23));
        due("the first one", 0, () -> x.matched(0));
        x.out(1, 0, 21);
        due("two NOTs fewer", false, () -> x.same());
    }

    private static void sameKinds() {
        for (int one = POINT; one <= DELAY; one++) {
            for (int other = POINT; other <= DELAY; other++) {
                EditionEqual x = new EditionEqual(1);
                putBehindPoint(x, 0, one, 0);
                putBehindPoint(x, 1, other, 0);
                due("kinds " + one + " and " + other, one == other, () -> x.same());
            }
        }
    }

    private static void sameNumbers() {
        for (int kind = POINT; kind <= DELAY; kind++) {
            EditionEqual x = new EditionEqual(2);
            putBehindPoint(x, 0, kind, 0);
            putBehindPoint(x, 1, kind, 1);
            due("kind " + kind + " with numbers 0 and 1", kind != POINT && kind != FIXED, () -> x.same());
        }
        EditionEqual y = new EditionEqual(1);
        putBehindPoint(y, 0, NOT, LEAST_INT);
        putBehindPoint(y, 1, NOT, GREATEST_INT);
        due("the least and the greatest number", true, () -> y.same());
    }

    /** Inputs 0 and 1 go to a point and to 0, in edition 1 as well; then one of them to the other. */
    private static void sameNeededInputs() {
        for (int kind = POINT; kind <= DELAY; kind++) {
            for (int input = 0; input < 2; input++) {
                EditionEqual x = new EditionEqual(1);
                for (int edition = 0; edition < 2; edition++) {
                    x.block(edition, POINT, 0);
                    x.block(edition, FIXED, 0);
                    x.block(edition, kind, 0);
                    x.wire(edition, 2, 0, 0);
                    x.wire(edition, 2, 1, 1);
                    x.out(edition, 1, 2);
                }
                due("kind " + kind + " with the same inputs", true, () -> x.same());
                x.wire(1, 2, input, 1 - input);
                due("kind " + kind + " with another input " + input, !isNeeded(kind, input), () -> x.same());
            }
        }
    }

    private static boolean isNeeded(int kind, int input) {
        return input == 0 ? kind >= NOT : kind >= BOTH && kind <= UNLIKE;
    }

    private static void putBehindPoint(EditionEqual x, int edition, int kind, int number) {
        x.block(edition, POINT, 0);
        x.block(edition, kind, number);
        x.wire(edition, 1, 0, 0);
        x.wire(edition, 1, 1, 0);
        x.out(edition, 2, 1);
    }

    private static void matchedWithTwo() {
        for (int edition = 0; edition < 2; edition++) {
            EditionEqual x = new EditionEqual(1);
            addBlocks(x, edition, POINT, 2);
            addBlocks(x, 1 - edition, POINT, 1);
            for (int output = 0; output < 3; output++) {
                x.out(edition, output, output / 2);
                x.out(1 - edition, output, 0);
            }
            due("two of edition " + edition, false, () -> x.same());
            due("then none is matched", NONE, () -> x.matched(0));
            x.out(edition, 2, 0);
            due("three times the same two", true, () -> x.same());
            due("then it is matched", 0, () -> x.matched(0));
        }
    }

    private static void outputInOneAlone() {
        for (int edition = 0; edition < 2; edition++) {
            for (int output = 0; output < 3; output++) {
                EditionEqual x = new EditionEqual(1);
                addFixedOuts(x, edition, 0);
                addFixedOuts(x, 1 - edition, 0);
                due("all outputs in both", true, () -> x.same());
                x.out(edition, output, NONE);
                due("output " + output + " not in edition " + edition, false, () -> x.same());
                due("alike nonetheless", 0, () -> x.compare());
                x.out(1 - edition, output, NONE);
                due("output " + output + " in none", true, () -> x.same());
            }
        }
    }

    private static void sameNotRight() {
        for (int edition = 0; edition < 2; edition++) {
            EditionEqual x = spoilt(edition);
            due("edition " + edition, STATE, () -> x.same());
        }
    }

    private static void matchedBlocksInBounds() {
        EditionEqual x = new EditionEqual(1);
        due("of no blocks the first", ARGUMENT, () -> x.matched(0));
        addChain(x, 1);
        refused("of edition 1 alone", new int[] {NONE, 0, 1, 23, 24}, block -> x.matched(block));
        addChain(x, 0);
        refused("of 24", outside(0, 23), block -> x.matched(block));
        due("the first one is idle", NONE, () -> x.matched(0));
        due("the last one is idle", NONE, () -> x.matched(23));
        EditionEqual y = new EditionEqual(1);
        y.block(0, POINT, 0);
        addBlocks(y, 1, FIXED, 23);
        y.block(1, POINT, 0);
        y.out(0, 0, 0);
        y.out(1, 0, 23);
        due("the first one with the last one", 23, () -> y.matched(0));
    }

    private static void matchedNone() {
        EditionEqual x = new EditionEqual(1);
        addChain(x, 0);
        addChain(x, 1);
        x.out(0, 0, 22);
        x.out(1, 0, 22);
        for (int block = 0; block < 23; block++) {
            int b = block;
            due("block " + b, b, () -> x.matched(b));
        }
        due("the idle one", NONE, () -> x.matched(23));
        x.out(0, 1, 0);
        for (int block = 0; block < 24; block++) {
            int b = block;
            due("not the same, block " + b, NONE, () -> x.matched(b));
        }
    }

    private static void matchedNotRight() {
        for (int edition = 0; edition < 2; edition++) {
            EditionEqual x = spoilt(edition);
            due("the first block", STATE, () -> x.matched(0));
            due("the last block", STATE, () -> x.matched(x.blocks(0) - 1));
            due("one block more", ARGUMENT, () -> x.matched(x.blocks(0)));
            refused("no block", outside(0, 23), block -> x.matched(block));
        }
    }

    private static void idleFromFirstToLast() {
        EditionEqual x = new EditionEqual(1);
        addChain(x, 1);
        for (int k = 0; k < 24; k++) {
            int at = k;
            due("all idle, " + at, at, () -> x.idle(1, at));
        }
        x.out(1, 2, 11);
        for (int k = 0; k < 12; k++) {
            int at = k;
            due("the upper twelve, " + at, 12 + at, () -> x.idle(1, at));
        }
        due("no more", NONE, () -> x.idle(1, 12));
        x.out(1, 2, 22);
        due("the last block alone", 23, () -> x.idle(1, 0));
        due("no other", NONE, () -> x.idle(1, 1));
    }

    private static void idleBeyond() {
        int[] far = {24, 25, 31, 32, 33, 65536, GREATEST_INT - 1, GREATEST_INT};
        EditionEqual x = new EditionEqual(1);
        due("without blocks", NONE, () -> x.idle(0, 0));
        dueForAll("without blocks", NONE, far, k -> x.idle(0, k));
        addChain(x, 0);
        due("the last of 24", 23, () -> x.idle(0, 23));
        dueForAll("of 24", NONE, far, k -> x.idle(0, k));
        x.out(0, 0, 23);
        due("all 24 live", NONE, () -> x.idle(0, 0));
        dueForAll("all 24 live", NONE, far, k -> x.idle(0, k));
        addChainBack(x, 1);
        x.out(1, 0, 0);
        due("all 24 live in the other order", NONE, () -> x.idle(1, 0));
    }

    private static void idleBelow() {
        EditionEqual x = new EditionEqual(1);
        refused("without blocks", BELOW_ZERO, k -> x.idle(0, k));
        addChain(x, 0);
        refused("of 24", BELOW_ZERO, k -> x.idle(0, k));
        x.wire(0, 1, 0, NONE);
        refused("not right", BELOW_ZERO, k -> x.idle(0, k));
    }

    private static void liveByNeededInputs() {
        for (int kind = POINT; kind <= DELAY; kind++) {
            for (int input = 0; input < 2; input++) {
                EditionEqual x = new EditionEqual(1);
                addBlocks(x, 0, FIXED, 23);
                x.block(0, kind, 0);
                x.out(0, 0, 23);
                x.wire(0, 23, input, 0);
                due("kind " + kind + " by input " + input, isNeeded(kind, input) ? 1 : 0, () -> x.idle(0, 0));
            }
        }
    }

    private static void idleNotRight() {
        EditionEqual x = new EditionEqual(1);
        addBlocks(x, 0, NOT, 24);
        x.out(0, 0, 0);
        due("unwired ones", 1, () -> x.idle(0, 0));
        for (int block = 0; block < 24; block++) {
            x.wire(0, block, 0, (block + 1) % 24);
        }
        due("a live ring of 24", NONE, () -> x.idle(0, 0));
        x.out(0, 0, NONE);
        due("an idle ring of 24", 23, () -> x.idle(0, 23));
    }

    private static void blocksFromNoneToAll() {
        EditionEqual x = new EditionEqual(1);
        due("none", 0, () -> x.blocks(0));
        for (int count = 1; count <= 24; count++) {
            x.block(0, BOTH, 0);
            due("so many", count, () -> x.blocks(0));
        }
        due("one more", STATE, () -> x.block(0, BOTH, 0));
        due("still all", 24, () -> x.blocks(0));
        due("none in the other", 0, () -> x.blocks(1));
    }
}
