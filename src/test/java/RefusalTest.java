import java.util.ArrayList;
import java.util.List;
import java.util.function.Function;
import java.util.function.IntFunction;
import java.util.function.Supplier;

/**
 * The terms' sentence on all calls: "illegal argument: a number is out of its bounds, there is no
 * such edition, block. Illegal state: as told. Of several exceptions the one named first is
 * thrown; a call that throws changes nothing."
 * Each call that must throw is made, behind some questions, on a new object of each making where
 * it must; it throws what is due, and a full reading of the object afterwards is that of one where
 * neither was made.
 */
public final class RefusalTest {
    private static final int NONE = EditionEqual.NONE;
    private static final int DELAY = 6;
    private static final int ROWS = 16;
    private static final Class<?> ARGUMENT = IllegalArgumentException.class;
    private static final Class<?> STATE = IllegalStateException.class;

    private static int failures = 0;
    private static int refusals = 0;

    /** A call that must throw, whatever the object holds or by what it holds. */
    private static final class Refusal {
        final String name;
        final Class<?> due;
        final Function<EditionEqual, Object> call;

        Refusal(String name, Class<?> due, Function<EditionEqual, Object> call) {
            this.name = name;
            this.due = due;
            this.call = call;
        }
    }

    private static final class Refusals {
        final List<Refusal> all = new ArrayList<>();

        void add(String name, Class<?> due, Function<EditionEqual, Object> call) {
            all.add(new Refusal(name, due, call));
        }

        void addEach(String name, int[] numbers, IntFunction<Function<EditionEqual, Object>> call) {
            for (int number : numbers) {
                add(name + " with " + number, ARGUMENT, call.apply(number));
            }
        }
    }

    public static void main(String[] args) {
        List<Refusal> always = outOfBoundsInAll();
        tryAll("without blocks", RefusalTest::empty, always);
        tryAll("without blocks", RefusalTest::empty, withoutBlocks());
        tryAll("24 blocks, right", RefusalTest::fullAndRight, always);
        tryAll("24 blocks, right", RefusalTest::fullAndRight, withoutRoom());
        tryAll("24 blocks, right", RefusalTest::fullAndRight, beyondShown());
        tryAll("five delays, all rows barred", RefusalTest::delaysAndAllBarred, always);
        tryAll("five delays, all rows barred", RefusalTest::delaysAndAllBarred, withoutDelaysLeft());
        for (int edition = 0; edition < 2; edition++) {
            int e = edition;
            tryAll("edition " + e + " with an unwired input", () -> fullAndUnwired(e), always);
            tryAll("edition " + e + " with an unwired input", () -> fullAndUnwired(e), notRight(e));
            tryAll("edition " + e + " with a ring", () -> fullAndRinged(e), always);
            tryAll("edition " + e + " with a ring", () -> fullAndRinged(e), notRight(e));
        }
        System.out.println(failures == 0 ? refusals + " refusals are as due" : failures + " refusals are not as due");
        if (failures != 0) {
            System.exit(1);
        }
    }

    private static void tryAll(String making, Supplier<EditionEqual> maker, List<Refusal> list) {
        List<Object> untouched = reading(maker.get());
        for (Refusal refusal : list) {
            EditionEqual x = maker.get();
            readBoth(x, new ArrayList<>());
            Object got = answerOf(() -> refusal.call.apply(x));
            List<Object> touched = reading(x);
            refusals++;
            if (!refusal.due.equals(got)) {
                tell(making, refusal, "answered " + got + ", due is " + refusal.due);
            }
            if (!untouched.equals(touched)) {
                tell(making, refusal, "it changed " + untouched + " to " + touched);
            }
        }
    }

    private static void tell(String making, Refusal refusal, String what) {
        failures++;
        System.out.println("[" + making + "] " + refusal.name + ": " + what);
    }

    private static Object answerOf(Supplier<Object> call) {
        try {
            return call.get();
        } catch (RuntimeException e) {
            return e.getClass();
        }
    }

    // ---- calls that must throw

    private static int[] outside(int low, int high) {
        return new int[] {Integer.MIN_VALUE, low - 32, low - 1, high + 1, high + 32, Integer.MAX_VALUE};
    }

    private static int[] belowZero() {
        return new int[] {Integer.MIN_VALUE, -32, -2, -1};
    }

    /** Refused on each object of four points, right or not, with blocks or without. */
    private static List<Refusal> outOfBoundsInAll() {
        Refusals list = new Refusals();
        noSuchEdition(list);
        for (int edition = 0; edition < 2; edition++) {
            changesOutOfBounds(list, edition);
            questionsOutOfBounds(list, edition);
        }
        list.addEach("bar on", outside(0, ROWS - 1), row -> x -> x.bar(row, true));
        list.addEach("bar off", outside(0, ROWS - 1), row -> x -> x.bar(row, false));
        list.addEach("shown", belowZero(), k -> x -> x.shown(k));
        list.addEach("matched", outside(0, 23), block -> x -> x.matched(block));
        return list.all;
    }

    private static void noSuchEdition(Refusals list) {
        int[] editions = outside(0, 1);
        for (int kind = 0; kind <= DELAY; kind++) {
            int k = kind;
            list.addEach("block of kind " + k + " of edition", editions, edition -> x -> x.block(edition, k, 0));
        }
        list.addEach("wire to a block of edition", editions, edition -> x -> x.wire(edition, 0, 0, 0));
        list.addEach("wire to none of edition", editions, edition -> x -> x.wire(edition, 0, 1, NONE));
        list.addEach("out of edition", editions, edition -> x -> x.out(edition, 0, 0));
        list.addEach("out none of edition", editions, edition -> x -> x.out(edition, 2, NONE));
        list.addEach("wrong of edition", editions, edition -> x -> x.wrong(edition));
        list.addEach("value of edition", editions, edition -> x -> x.value(edition, 0, 0, 0));
        list.addEach("tick of edition", editions, edition -> x -> x.tick(edition, 0, 0));
        list.addEach("reached of edition", editions, edition -> x -> x.reached(edition));
        list.addEach("state of edition", editions, edition -> x -> x.state(edition, 0));
        list.addEach("least of edition", editions, edition -> x -> x.least(edition));
        list.addEach("last of edition", editions, edition -> x -> x.last(edition));
        list.addEach("idle of edition", editions, edition -> x -> x.idle(edition, 0));
        list.addEach("blocks of edition", editions, edition -> x -> x.blocks(edition));
    }

    private static void changesOutOfBounds(Refusals list, int e) {
        list.addEach("block of kind", outside(0, DELAY), kind -> x -> x.block(e, kind, 0));
        list.addEach("block of point", outside(0, 3), number -> x -> x.block(e, 0, number));
        list.addEach("block of fixed", outside(0, 1), number -> x -> x.block(e, 1, number));
        list.addEach("wire of block", outside(0, 23), block -> x -> x.wire(e, block, 0, 0));
        list.addEach("wire to none of block", outside(0, 23), block -> x -> x.wire(e, block, 0, NONE));
        list.addEach("wire of input", outside(0, 1), input -> x -> x.wire(e, 0, input, 0));
        list.addEach("wire to none of input", outside(0, 1), input -> x -> x.wire(e, 0, input, NONE));
        list.addEach("wire to", outside(-1, 23), to -> x -> x.wire(e, 2, 0, to));
        list.addEach("wire of input 1 to", outside(-1, 23), to -> x -> x.wire(e, 2, 1, to));
        list.addEach("out of output", outside(0, 2), output -> x -> x.out(e, output, 0));
        list.addEach("out none of output", outside(0, 2), output -> x -> x.out(e, output, NONE));
        list.addEach("out of block", outside(-1, 23), block -> x -> x.out(e, 1, block));
    }

    private static void questionsOutOfBounds(Refusals list, int e) {
        list.addEach("value of block", outside(0, 23), block -> x -> x.value(e, block, 0, 0));
        list.addEach("value by row", outside(0, ROWS - 1), row -> x -> x.value(e, 0, 0, row));
        list.addEach("tick by row", outside(0, ROWS - 1), row -> x -> x.tick(e, 0, row));
        list.addEach("state at place", belowZero(), place -> x -> x.state(e, place));
        list.addEach("idle at", belowZero(), k -> x -> x.idle(e, k));
    }

    private static List<Refusal> withoutBlocks() {
        Refusals list = new Refusals();
        for (int edition = 0; edition < 2; edition++) {
            int e = edition;
            list.add("wire of no block", ARGUMENT, x -> x.wire(e, 0, 0, NONE));
            list.add("out of no block", ARGUMENT, x -> x.out(e, 0, 0));
            list.add("value of no block", ARGUMENT, x -> x.value(e, 0, 0, 0));
        }
        list.add("matched of no block", ARGUMENT, x -> x.matched(0));
        list.add("shown of none", ARGUMENT, x -> x.shown(0));
        return list.all;
    }

    private static List<Refusal> withoutRoom() {
        Refusals list = new Refusals();
        for (int edition = 0; edition < 2; edition++) {
            int e = edition;
            for (int kind = 0; kind <= DELAY; kind++) {
                int k = kind;
                list.add("a 25th block of kind " + k, STATE, x -> x.block(e, k, 1));
            }
        }
        return list.all;
    }

    private static List<Refusal> withoutDelaysLeft() {
        Refusals list = new Refusals();
        list.add("a sixth delay in edition 0", STATE, x -> x.block(0, DELAY, 0));
        list.add("a sixth delay in edition 1", STATE, x -> x.block(1, DELAY, 0));
        list.add("shown, all rows barred", ARGUMENT, x -> x.shown(0));
        list.add("wire of no block", ARGUMENT, x -> x.wire(0, 6, 0, 0));
        list.add("wire to no block", ARGUMENT, x -> x.wire(0, 0, 0, 6));
        list.add("out of no block", ARGUMENT, x -> x.out(1, 0, 6));
        list.add("matched of no block", ARGUMENT, x -> x.matched(6));
        return list.all;
    }

    private static List<Refusal> beyondShown() {
        Refusals list = new Refusals();
        list.add("shown one more", ARGUMENT, x -> x.shown(x.compare()));
        list.add("shown far more", ARGUMENT, x -> x.shown(Integer.MAX_VALUE));
        return list.all;
    }

    /** One edition is not right: its own questions are refused, and those about both. */
    private static List<Refusal> notRight(int e) {
        Refusals list = new Refusals();
        list.add("value", STATE, x -> x.value(e, 0, 0, 0));
        list.add("value of the last block, by the last row", STATE, x -> x.value(e, 23, -1, ROWS - 1));
        list.add("tick", STATE, x -> x.tick(e, 0, 0));
        list.add("reached", STATE, x -> x.reached(e));
        list.add("state", STATE, x -> x.state(e, 0));
        list.add("state beyond", STATE, x -> x.state(e, Integer.MAX_VALUE));
        list.add("least", STATE, x -> x.least(e));
        list.add("compare", STATE, x -> x.compare());
        list.add("shown", STATE, x -> x.shown(0));
        list.add("shown beyond", STATE, x -> x.shown(Integer.MAX_VALUE));
        list.add("last of edition 0", STATE, x -> x.last(0));
        list.add("last of edition 1", STATE, x -> x.last(1));
        list.add("pairs", STATE, x -> x.pairs());
        list.add("same", STATE, x -> x.same());
        list.add("matched", STATE, x -> x.matched(0));
        list.add("matched of the last block", STATE, x -> x.matched(23));
        return list.all;
    }

    // ---- objects of all sorts, each with four points

    private static EditionEqual empty() {
        return new EditionEqual(4);
    }

    /** Both editions have four points, five delays and all other kinds, and differ in their wires. */
    private static EditionEqual fullAndRight() {
        EditionEqual x = new EditionEqual(4);
        for (int edition = 0; edition < 2; edition++) {
            for (int block = 0; block < 24; block++) {
                int kind = block < 4 ? 0 : block < 9 ? DELAY : 1 + block % 5;
                x.block(edition, kind, block < 4 ? block : block % 2);
            }
            for (int block = 4; block < 24; block++) {
                x.wire(edition, block, 0, block < 9 ? block + 9 : block - 5);
                x.wire(edition, block, 1, block < 9 ? NONE : block - 7 - edition);
            }
            for (int output = 0; output < 3; output++) {
                x.out(edition, output, 23 - output - edition);
            }
        }
        x.bar(3, true);
        x.bar(15, true);
        return x;
    }

    private static EditionEqual delaysAndAllBarred() {
        EditionEqual x = new EditionEqual(4);
        for (int edition = 0; edition < 2; edition++) {
            x.block(edition, 0, 3);
            for (int block = 1; block <= 5; block++) {
                x.block(edition, DELAY, 0);
                x.wire(edition, block, 0, block - 1);
            }
            x.out(edition, edition, 5);
        }
        for (int row = 0; row < ROWS; row++) {
            x.bar(row, true);
        }
        return x;
    }

    private static EditionEqual fullAndUnwired(int edition) {
        EditionEqual x = fullAndRight();
        x.wire(edition, 8, 0, NONE);
        return x;
    }

    private static EditionEqual fullAndRinged(int edition) {
        EditionEqual x = fullAndRight();
        x.wire(edition, 17, 0, 17);
        return x;
    }

    // ---- all that an object can be asked, in fewer than 512 calls

    private static List<Object> reading(EditionEqual x) {
        List<Object> found = new ArrayList<>();
        for (int edition = 0; edition < 2; edition++) {
            readEdition(x, edition, found);
        }
        readBoth(x, found);
        for (int edition = 0; edition < 2; edition++) {
            readBlocks(x, edition, found);
        }
        for (int row = 0; row < ROWS; row++) {
            found.add(x.bar(row, false));
        }
        return found;
    }

    private static void readEdition(EditionEqual x, int e, List<Object> found) {
        found.add(answerOf(() -> x.blocks(e)));
        found.add(answerOf(() -> x.wrong(e)));
        found.add(answerOf(() -> x.reached(e)));
        found.add(answerOf(() -> x.state(e, 1)));
        found.add(answerOf(() -> x.least(e)));
        found.add(answerOf(() -> x.idle(e, 0)));
        found.add(answerOf(() -> x.idle(e, 1)));
        for (int row = 0; row < ROWS; row += 5) {
            int r = row;
            found.add(answerOf(() -> x.tick(e, 0, r)));
            found.add(answerOf(() -> x.tick(e, 21, r)));
        }
    }

    private static void readBoth(EditionEqual x, List<Object> found) {
        found.add(answerOf(() -> x.compare()));
        found.add(answerOf(() -> x.shown(0)));
        found.add(answerOf(() -> x.last(0)));
        found.add(answerOf(() -> x.last(1)));
        found.add(answerOf(() -> x.pairs()));
        found.add(answerOf(() -> x.same()));
        found.add(answerOf(() -> x.matched(0)));
    }

    /** Values first: a wire or an output is read by what it was when it is taken away. */
    private static void readBlocks(EditionEqual x, int e, List<Object> found) {
        int count = x.blocks(e);
        for (int block = 0; block < count; block++) {
            int b = block;
            found.add(answerOf(() -> x.value(e, b, 10, 6)));
        }
        for (int output = 0; output < 3; output++) {
            found.add(x.out(e, output, NONE));
        }
        for (int block = 0; block < count; block++) {
            found.add(x.wire(e, block, 0, NONE));
            found.add(x.wire(e, block, 1, NONE));
        }
    }
}
