import java.lang.reflect.Constructor;
import java.lang.reflect.Field;
import java.lang.reflect.Member;
import java.lang.reflect.Method;
import java.lang.reflect.Modifier;
import java.util.Set;
import java.util.TreeSet;

/** Each promise of the document by hand: ordinary inputs, the edges it names, wrong inputs. */
public final class PromiseTest {
    private static final int NONE = EditionEqual.NONE;
    private static final int POINT = 0;
    private static final int FIXED = 1;
    private static final int NOT = 2;
    private static final int BOTH = 3;
    private static final int EITHER = 4;
    private static final int UNLIKE = 5;
    private static final int DELAY = 6;
    private static final int[] WILD = {Integer.MIN_VALUE, -2, -1, 99, Integer.MAX_VALUE};

    private static int failures = 0;

    private interface Call {
        Object answer();
    }

    private static void due(String what, Object want, Call call) {
        Object got;
        try {
            got = call.answer();
        } catch (RuntimeException e) {
            got = e.getClass();
        }
        if (!want.equals(got)) {
            failures++;
            System.out.println(what + ": answered " + got + ", due is " + want);
        }
    }

    private static void illegalArgument(String what, Call call) {
        due(what, IllegalArgumentException.class, call);
    }

    private static void illegalState(String what, Call call) {
        due(what, IllegalStateException.class, call);
    }

    public static void main(String[] args) {
        face();
        promise1NewObject();
        promise2Block();
        promise3Wire();
        promise4Out();
        promise5Bar();
        promise6Wrong();
        promise7Value();
        promise8Tick();
        promise9And10Reached();
        promise11Least();
        promise12To14Shown();
        promise15Pairs();
        promise16And17Same();
        promise18Idle();
        promise19Blocks();
        argumentBeforeState();
        answersFollowChanges();
        System.out.println(failures == 0 ? "all promises hold" : failures + " answers are not as due");
        if (failures != 0) {
            System.exit(1);
        }
    }

    /** The document's face, line by line: constants, constructor and methods, with what they throw. */
    private static final String[] FACE = {
        "public static final int NONE",
        "public EditionEqual(int)",
        "public int block(int,int,int) throws IllegalArgumentException,IllegalStateException",
        "public int wire(int,int,int,int) throws IllegalArgumentException",
        "public int out(int,int,int) throws IllegalArgumentException",
        "public boolean bar(int,boolean) throws IllegalArgumentException",
        "public int wrong(int) throws IllegalArgumentException",
        "public int value(int,int,int,int) throws IllegalArgumentException,IllegalStateException",
        "public int tick(int,int,int) throws IllegalArgumentException,IllegalStateException",
        "public int reached(int) throws IllegalArgumentException,IllegalStateException",
        "public int state(int,int) throws IllegalArgumentException,IllegalStateException",
        "public int least(int) throws IllegalArgumentException,IllegalStateException",
        "public int compare() throws IllegalStateException",
        "public int shown(int) throws IllegalArgumentException,IllegalStateException",
        "public int last(int) throws IllegalArgumentException,IllegalStateException",
        "public int pairs() throws IllegalStateException",
        "public boolean same() throws IllegalStateException",
        "public int matched(int) throws IllegalArgumentException,IllegalStateException",
        "public int idle(int,int) throws IllegalArgumentException",
        "public int blocks(int) throws IllegalArgumentException"};

    private static void face() {
        Set<String> names = new TreeSet<>();
        Set<String> got = new TreeSet<>();
        for (Method method : EditionEqual.class.getDeclaredMethods()) {
            if (isOpen(method)) {
                got.add(plain(method.toGenericString()));
                names.add(method.getName());
            }
        }
        for (Field field : EditionEqual.class.getDeclaredFields()) {
            if (isOpen(field)) {
                got.add(plain(field.toGenericString()));
            }
        }
        for (Constructor<?> constructor : EditionEqual.class.getDeclaredConstructors()) {
            if (isOpen(constructor)) {
                got.add(plain(constructor.toGenericString()));
            }
        }
        due("the face, and no more", new TreeSet<>(Set.of(FACE)), () -> got);
        for (Method method : EditionEqual.class.getDeclaredMethods()) {
            due(method.getName() + " bears no public name", false,
                    () -> !isOpen(method) && names.contains(method.getName()));
        }
        due("the class is public and final", Modifier.PUBLIC | Modifier.FINAL, () -> EditionEqual.class.getModifiers());
        due("NONE", -1, () -> EditionEqual.NONE);
    }

    private static boolean isOpen(Member member) {
        return !Modifier.isPrivate(member.getModifiers()) && !member.isSynthetic();
    }

    private static String plain(String signature) {
        return signature.replace("java.lang.", "").replace("EditionEqual.", "");
    }

    private static void promise1NewObject() {
        int[][] pointsAndRows = {{Integer.MIN_VALUE, 2}, {-1, 2}, {0, 2}, {1, 2}, {2, 4}, {3, 8}, {4, 16}, {5, 16},
            {Integer.MAX_VALUE, 16}};
        for (int[] pair : pointsAndRows) {
            String name = "new(" + pair[0] + ") ";
            EditionEqual x = new EditionEqual(pair[0]);
            due(name + "blocks(0)", 0, () -> x.blocks(0));
            due(name + "blocks(1)", 0, () -> x.blocks(1));
            for (int row = 0; row < pair[1]; row++) {
                int r = row;
                due(name + "bar(" + r + ")", false, () -> x.bar(r, false));
            }
            illegalArgument(name + "bar beyond", () -> x.bar(pair[1], false));
            int points = Integer.numberOfTrailingZeros(pair[1]);
            due(name + "last point", 0, () -> x.block(0, POINT, points - 1));
            illegalArgument(name + "no point", () -> x.block(0, POINT, points));
            due(name + "compare", 0, () -> new EditionEqual(pair[0]).compare());
            due(name + "same", true, () -> new EditionEqual(pair[0]).same());
            due(name + "tick", 0, () -> x.tick(1, -1, pair[1] - 1));
        }
    }

    private static void promise2Block() {
        EditionEqual x = new EditionEqual(3);
        for (int kind = 0; kind <= 6; kind++) {
            int k = kind;
            due("block of kind " + k, k, () -> x.block(0, k, 0));
        }
        due("editions count apart", 0, () -> x.block(1, FIXED, 1));
        for (int wild : WILD) {
            illegalArgument("block(edition " + wild + ")", () -> x.block(wild, POINT, 0));
            illegalArgument("block(kind " + wild + ")", () -> x.block(0, wild, 0));
            illegalArgument("block(point " + wild + ")", () -> x.block(0, POINT, wild));
            illegalArgument("block(fixed " + wild + ")", () -> x.block(0, FIXED, wild));
        }
        illegalArgument("edition 2", () -> x.block(2, POINT, 0));
        illegalArgument("kind 7", () -> x.block(0, 7, 0));
        illegalArgument("point 3 of 3", () -> x.block(0, POINT, 3));
        illegalArgument("fixed 2", () -> x.block(0, FIXED, 2));
        due("throws change nothing", 7, () -> x.blocks(0));
        due("number not asked", 7, () -> x.block(0, NOT, Integer.MIN_VALUE));
        due("number not asked", 8, () -> x.block(0, BOTH, -1));
        for (int i = 0; i < 4; i++) {
            int at = 9 + i;
            due("delay " + at, at, () -> x.block(0, DELAY, 77));
        }
        illegalState("sixth delay", () -> x.block(0, DELAY, 0));
        due("other edition's delay", 1, () -> x.block(1, DELAY, 0));
        for (int at = 13; at < 24; at++) {
            int b = at;
            due("block " + b, b, () -> x.block(0, EITHER, 5));
        }
        illegalState("25th block", () -> x.block(0, POINT, 0));
        illegalState("25th block, a delay", () -> x.block(0, DELAY, 0));
        illegalArgument("25th block of no kind", () -> x.block(0, 7, 0));
        illegalArgument("25th block, no point", () -> x.block(0, POINT, 3));
        due("24 stay", 24, () -> x.blocks(0));
        due("2 stay", 2, () -> x.blocks(1));
    }

    private static void promise3Wire() {
        EditionEqual x = new EditionEqual(1);
        x.block(0, POINT, 0);
        x.block(0, BOTH, 0);
        x.block(1, NOT, 0);
        due("first wire", NONE, () -> x.wire(0, 1, 0, 0));
        due("wired again", 0, () -> x.wire(0, 1, 0, 1));
        due("to none", 1, () -> x.wire(0, 1, 0, NONE));
        due("was none", NONE, () -> x.wire(0, 1, 0, 0));
        due("input 1 is its own", NONE, () -> x.wire(0, 1, 1, 1));
        due("not needed input", NONE, () -> x.wire(0, 0, 1, 1));
        due("not needed input kept", 1, () -> x.wire(0, 0, 1, 0));
        due("the other edition is its own", NONE, () -> x.wire(1, 0, 0, 0));
        for (int wild : WILD) {
            illegalArgument("wire(edition " + wild + ")", () -> x.wire(wild, 0, 0, 0));
            illegalArgument("wire(block " + wild + ")", () -> x.wire(0, wild, 0, 0));
            illegalArgument("wire(input " + wild + ")", () -> x.wire(0, 0, wild, 0));
            if (wild != NONE) {
                illegalArgument("wire(to " + wild + ")", () -> x.wire(0, 1, 0, wild));
            }
        }
        illegalArgument("edition 2", () -> x.wire(2, 0, 0, 0));
        illegalArgument("block 2 of 2", () -> x.wire(0, 2, 0, 0));
        illegalArgument("input 2", () -> x.wire(0, 1, 2, 0));
        illegalArgument("to 2 of 2", () -> x.wire(0, 1, 0, 2));
        illegalArgument("to the other edition's block", () -> x.wire(1, 0, 0, 1));
        due("throws change nothing", 0, () -> x.wire(0, 1, 0, 0));
    }

    private static void promise4Out() {
        EditionEqual x = new EditionEqual(1);
        x.block(0, POINT, 0);
        x.block(0, FIXED, 1);
        x.block(1, FIXED, 0);
        for (int output = 0; output < 3; output++) {
            int o = output;
            due("first out " + o, NONE, () -> x.out(0, o, 1));
            due("out again " + o, 1, () -> x.out(0, o, 0));
            due("out none " + o, 0, () -> x.out(0, o, NONE));
            due("out was none " + o, NONE, () -> x.out(0, o, 1));
            due("the other edition is its own " + o, NONE, () -> x.out(1, o, 0));
        }
        for (int wild : WILD) {
            illegalArgument("out(edition " + wild + ")", () -> x.out(wild, 0, 0));
            illegalArgument("out(output " + wild + ")", () -> x.out(0, wild, 0));
            if (wild != NONE) {
                illegalArgument("out(block " + wild + ")", () -> x.out(0, 0, wild));
            }
        }
        illegalArgument("edition 2", () -> x.out(2, 0, NONE));
        illegalArgument("output 3", () -> x.out(0, 3, 0));
        illegalArgument("block 2 of 2", () -> x.out(0, 0, 2));
        due("throws change nothing", 1, () -> x.out(0, 0, 1));
    }

    private static void promise5Bar() {
        EditionEqual x = new EditionEqual(4);
        for (int row = 0; row < 16; row++) {
            int r = row;
            due("not barred " + r, false, () -> x.bar(r, true));
            due("barred " + r, true, () -> x.bar(r, true));
        }
        due("opened", true, () -> x.bar(15, false));
        due("open", false, () -> x.bar(15, false));
        due("others stay", true, () -> x.bar(14, true));
        for (int wild : WILD) {
            illegalArgument("bar(" + wild + ")", () -> x.bar(wild, true));
        }
        illegalArgument("bar(16)", () -> x.bar(16, true));
        illegalArgument("bar(32)", () -> x.bar(32, false));
        due("throws change nothing", true, () -> x.bar(0, true));
    }

    private static void promise6Wrong() {
        EditionEqual x = new EditionEqual(1);
        due("no blocks", NONE, () -> x.wrong(0));
        x.block(0, POINT, 0);
        x.block(0, FIXED, 0);
        due("nothing needed", NONE, () -> x.wrong(0));
        for (int kind = NOT; kind <= DELAY; kind++) {
            boolean two = kind >= BOTH && kind <= UNLIKE;
            EditionEqual y = new EditionEqual(1);
            y.block(1, POINT, 0);
            y.block(1, kind, 0);
            String name = "kind " + kind;
            due(name + " unwired", 1, () -> y.wrong(1));
            due(name + " the other edition", NONE, () -> y.wrong(0));
            y.wire(1, 1, 1, 0);
            due(name + " input 1 alone", 1, () -> y.wrong(1));
            y.wire(1, 1, 0, 0);
            due(name + " both", NONE, () -> y.wrong(1));
            y.wire(1, 1, 1, NONE);
            due(name + " input 0 alone", two ? 1 : NONE, () -> y.wrong(1));
            y.wire(1, 1, 1, 1);
            due(name + " input 1 to itself", two ? 1 : NONE, () -> y.wrong(1));
            y.wire(1, 1, 1, 0);
            y.wire(1, 1, 0, 1);
            due(name + " input 0 to itself", kind == DELAY ? NONE : 1, () -> y.wrong(1));
        }
        wrongRings();
        for (int wild : WILD) {
            illegalArgument("wrong(" + wild + ")", () -> x.wrong(wild));
        }
        illegalArgument("wrong(2)", () -> x.wrong(2));
    }

    private static void wrongRings() {
        EditionEqual x = new EditionEqual(1);
        x.block(0, NOT, 0);
        for (int i = 1; i < 5; i++) {
            x.block(0, NOT, 0);
        }
        x.wire(0, 0, 0, 3);
        x.wire(0, 1, 0, 4);
        x.wire(0, 2, 0, 3);
        x.wire(0, 3, 0, 2);
        x.wire(0, 4, 0, 2);
        due("a block that only leads into a ring does not come back", 2, () -> x.wrong(0));
        x.block(0, NOT, 0);
        due("an unwired one goes before a ring of less number", 5, () -> x.wrong(0));
        x.wire(0, 5, 0, 5);
        due("the least ring", 2, () -> x.wrong(0));
        x.block(0, DELAY, 0);
        x.wire(0, 6, 0, 3);
        x.wire(0, 2, 0, 6);
        due("a ring through a delay is none", 5, () -> x.wrong(0));
        x.wire(0, 5, 0, 4);
        due("all right", NONE, () -> x.wrong(0));
        EditionEqual y = new EditionEqual(1);
        for (int i = 0; i < 24; i++) {
            y.block(0, NOT, 0);
            y.wire(0, i, 0, i == 0 ? NONE : i - 1);
        }
        due("a long chain that hangs", 0, () -> y.wrong(0));
        y.wire(0, 0, 0, 23);
        due("a ring of all", 0, () -> y.wrong(0));
        y.wire(0, 5, 0, 23);
        due("a ring of the upper ones", 5, () -> y.wrong(0));
    }

    private static EditionEqual twoPointsAndAllKinds() {
        EditionEqual x = new EditionEqual(2);
        x.block(0, POINT, 0);
        x.block(0, POINT, 1);
        x.block(0, FIXED, 0);
        x.block(0, FIXED, 1);
        for (int kind = NOT; kind <= DELAY; kind++) {
            int b = x.block(0, kind, 0);
            x.wire(0, b, 0, 0);
            x.wire(0, b, 1, 1);
        }
        x.block(0, DELAY, 0);
        x.wire(0, 9, 0, 8);
        return x;
    }

    private static void promise7Value() {
        EditionEqual x = twoPointsAndAllKinds();
        int[][] wantByRow = {{0, 0, 0, 1, 1, 0, 0, 0}, {1, 0, 0, 1, 0, 0, 1, 1}, {0, 1, 0, 1, 1, 0, 1, 1},
            {1, 1, 0, 1, 0, 1, 1, 0}};
        x.bar(3, true);
        for (int row = 0; row < 4; row++) {
            for (int block = 0; block < 8; block++) {
                int r = row;
                int b = block;
                due("value(" + b + ", row " + r + ")", wantByRow[r][b], () -> x.value(0, b, 2, r));
            }
        }
        for (int state : new int[] {0, 1, 2, 3, 4, 7, -1, -2, Integer.MIN_VALUE, Integer.MAX_VALUE, 33}) {
            due("first delay in state " + state, state & 1, () -> x.value(0, 8, state, 1));
            due("second delay in state " + state, state >> 1 & 1, () -> x.value(0, 9, state, 0));
        }
        for (int wild : WILD) {
            illegalArgument("value(edition " + wild + ")", () -> x.value(wild, 0, 0, 0));
            illegalArgument("value(block " + wild + ")", () -> x.value(0, wild, 0, 0));
            illegalArgument("value(row " + wild + ")", () -> x.value(0, 0, 0, wild));
        }
        illegalArgument("value(edition 2)", () -> x.value(2, 0, 0, 0));
        illegalArgument("value(block 10)", () -> x.value(0, 10, 0, 0));
        illegalArgument("value(row 4)", () -> x.value(0, 0, 0, 4));
        illegalArgument("no block in edition 1", () -> x.value(1, 0, 0, 0));
        x.block(1, NOT, 0);
        due("the other edition may be wrong", 1, () -> x.value(0, 3, 0, 0));
        illegalState("not right", () -> x.value(1, 0, 0, 0));
        laterBlocksFirst();
    }

    /** Wires may go to blocks of greater numbers: values do not hang on the order of numbers. */
    private static void laterBlocksFirst() {
        EditionEqual x = new EditionEqual(1);
        for (int i = 0; i < 23; i++) {
            x.block(0, NOT, 0);
        }
        x.block(0, POINT, 0);
        for (int i = 0; i < 23; i++) {
            x.wire(0, i, 0, i + 1);
        }
        for (int block = 0; block < 24; block++) {
            int b = block;
            due("back chain " + b + " row 0", (23 - b) & 1, () -> x.value(0, b, 0, 0));
            due("back chain " + b + " row 1", (24 - b) & 1, () -> x.value(0, b, 0, 1));
        }
    }

    private static void promise8Tick() {
        EditionEqual x = twoPointsAndAllKinds();
        x.bar(1, true);
        due("no outputs, next state", 8, () -> x.tick(0, 0, 1));
        x.out(0, 0, 7);
        x.out(0, 2, 9);
        due("row 0 state 0", 0, () -> x.tick(0, 0, 0));
        due("row 1 state 0", 1 + 8, () -> x.tick(0, 0, 1));
        due("row 2 state 1", 1 + 8 * 2, () -> x.tick(0, 1, 2));
        due("row 3 state 3", 4 + 8 * 3, () -> x.tick(0, 3, 3));
        due("other bits", 4 + 8 * 3, () -> x.tick(0, -1, 3));
        due("other bits", 0, () -> x.tick(0, 64 + 32 + 16 + 8 + 4, 0));
        x.out(0, 1, 3);
        due("all three", 7 + 8 * 3, () -> x.tick(0, 3, 1));
        x.out(0, 2, NONE);
        due("without a block", 3 + 8 * 3, () -> x.tick(0, 3, 1));
        for (int wild : WILD) {
            illegalArgument("tick(edition " + wild + ")", () -> x.tick(wild, 0, 0));
            illegalArgument("tick(row " + wild + ")", () -> x.tick(0, 0, wild));
        }
        illegalArgument("tick(row 4)", () -> x.tick(0, 0, 4));
        illegalArgument("tick(edition 2)", () -> x.tick(2, 0, 0));
        x.block(0, UNLIKE, 0);
        illegalState("not right", () -> x.tick(0, 0, 0));
        due("the other one is", 0, () -> x.tick(1, 0, 0));
    }

    /** A counter of three delays that steps up by row 1 and stays by row 0. */
    private static EditionEqual counterOfThree() {
        EditionEqual x = new EditionEqual(1);
        x.block(0, POINT, 0);
        for (int i = 0; i < 3; i++) {
            x.block(0, DELAY, 0);
        }
        for (int i = 0; i < 3; i++) {
            x.block(0, UNLIKE, 0);
        }
        x.block(0, BOTH, 0);
        x.block(0, BOTH, 0);
        for (int i = 0; i < 3; i++) {
            x.wire(0, 1 + i, 0, 4 + i);
            x.wire(0, 4 + i, 0, 1 + i);
        }
        x.wire(0, 4, 1, 0);
        x.wire(0, 5, 1, 7);
        x.wire(0, 6, 1, 8);
        x.wire(0, 7, 0, 0);
        x.wire(0, 7, 1, 1);
        x.wire(0, 8, 0, 7);
        x.wire(0, 8, 1, 2);
        return x;
    }

    private static void promise9And10Reached() {
        EditionEqual x = counterOfThree();
        due("counter reaches", 8, () -> x.reached(0));
        due("no delay", 1, () -> x.reached(1));
        for (int place = 0; place < 8; place++) {
            int p = place;
            due("state " + p, p, () -> x.state(0, p));
        }
        due("state beyond", NONE, () -> x.state(0, 8));
        due("state far beyond", NONE, () -> x.state(0, Integer.MAX_VALUE));
        due("state of none", 0, () -> x.state(1, 0));
        due("state of none beyond", NONE, () -> x.state(1, 1));
        x.bar(1, true);
        due("barred", 1, () -> x.reached(0));
        x.bar(0, true);
        due("all barred", 1, () -> x.reached(0));
        due("all barred", 0, () -> x.state(0, 0));
        due("all barred", NONE, () -> x.state(0, 1));
        x.bar(1, false);
        due("only steps", 8, () -> x.reached(0));
        for (int wild : WILD) {
            illegalArgument("reached(" + wild + ")", () -> x.reached(wild));
            illegalArgument("state(edition " + wild + ")", () -> x.state(wild, 0));
        }
        illegalArgument("reached(2)", () -> x.reached(2));
        illegalArgument("state(2, 0)", () -> x.state(2, 0));
        illegalArgument("place -1", () -> x.state(0, -1));
        illegalArgument("place least", () -> x.state(0, Integer.MIN_VALUE));
        holesAmongReached();
        rowZeroCounts();
        x.wire(0, 8, 1, NONE);
        illegalState("reached, not right", () -> x.reached(0));
        illegalState("state, not right", () -> x.state(0, 0));
        due("reached of the right one", 1, () -> x.reached(1));
    }

    /** A state that row 0 alone leads to, and outs that row 0 alone tells, at once or later. */
    private static void rowZeroCounts() {
        EditionEqual x = new EditionEqual(1);
        x.block(0, POINT, 0);
        x.block(0, NOT, 0);
        x.block(0, DELAY, 0);
        x.block(0, BOTH, 0);
        x.block(0, DELAY, 0);
        x.wire(0, 1, 0, 0);
        x.wire(0, 2, 0, 1);
        x.wire(0, 3, 0, 1);
        x.wire(0, 3, 1, 2);
        x.wire(0, 4, 0, 2);
        x.bar(1, true);
        due("reached by row 0 alone", 3, () -> x.reached(0));
        due("the last of them", 3, () -> x.state(0, 2));
        x.bar(1, false);
        due("reached by both", 4, () -> x.reached(0));
        x.out(0, 0, 3);
        due("row 0 alone tells", 2, () -> x.least(0));
        due("shown by row 0 twice", 2, () -> x.compare());
        due("first of them", 0, () -> x.shown(0));
        due("second of them", 0, () -> x.shown(1));
        x.wire(0, 4, 0, 3);
        x.out(0, 0, 4);
        due("row 0 leads to what tells", 3, () -> x.least(0));
    }

    /** Five delays, all fed with one: 0 and 31 are reached, the top bit of an int among them. */
    private static void holesAmongReached() {
        EditionEqual x = new EditionEqual(1);
        x.block(0, FIXED, 1);
        for (int i = 1; i <= 5; i++) {
            x.block(0, DELAY, 0);
            x.wire(0, i, 0, 0);
        }
        due("two reached", 2, () -> x.reached(0));
        due("the first", 0, () -> x.state(0, 0));
        due("the second", 31, () -> x.state(0, 1));
        due("no third", NONE, () -> x.state(0, 2));
        due("both one class", 1, () -> x.least(0));
        x.out(0, 0, 5);
        due("two classes", 2, () -> x.least(0));
        due("last state's outs", 1 + 8 * 31, () -> x.tick(0, 31, 0));
    }

    private static void promise11Least() {
        EditionEqual x = counterOfThree();
        due("no outputs", 1, () -> x.least(0));
        x.out(0, 0, 1);
        due("lowest bit", 2, () -> x.least(0));
        x.out(0, 0, 2);
        due("middle bit", 4, () -> x.least(0));
        x.out(0, 0, 3);
        due("highest bit", 8, () -> x.least(0));
        x.bar(1, true);
        due("one state", 1, () -> x.least(0));
        x.bar(1, false);
        x.bar(0, true);
        due("steps alone", 8, () -> x.least(0));
        x.bar(1, true);
        due("all barred", 1, () -> x.least(0));
        due("no blocks", 1, () -> x.least(1));
        barredRowsDoNotTell();
        for (int wild : WILD) {
            illegalArgument("least(" + wild + ")", () -> x.least(wild));
        }
        illegalArgument("least(2)", () -> x.least(2));
        x.wire(0, 1, 0, NONE);
        illegalState("not right", () -> x.least(0));
    }

    /** A delay of point 0 is seen at the output only while point 1 is on. */
    private static void barredRowsDoNotTell() {
        EditionEqual x = new EditionEqual(2);
        x.block(0, POINT, 0);
        x.block(0, POINT, 1);
        x.block(0, DELAY, 0);
        x.block(0, BOTH, 0);
        x.wire(0, 2, 0, 0);
        x.wire(0, 3, 0, 2);
        x.wire(0, 3, 1, 1);
        x.out(0, 1, 3);
        due("told apart", 2, () -> x.least(0));
        x.bar(2, true);
        due("row 3 still tells", 2, () -> x.least(0));
        x.bar(3, true);
        due("both reached", 2, () -> x.reached(0));
        due("none tells", 1, () -> x.least(0));
    }

    private static void delayed(EditionEqual x, int edition, int delays) {
        x.block(edition, POINT, 0);
        for (int i = 1; i <= delays; i++) {
            x.block(edition, DELAY, 0);
            x.wire(edition, i, 0, i - 1);
        }
        x.out(edition, 0, delays);
    }

    private static void promise12To14Shown() {
        EditionEqual x = new EditionEqual(1);
        delayed(x, 0, 2);
        delayed(x, 1, 5);
        due("compare", 3, () -> x.compare());
        due("shown 0", 1, () -> x.shown(0));
        due("shown 1", 0, () -> x.shown(1));
        due("shown 2", 0, () -> x.shown(2));
        illegalArgument("shown 3", () -> x.shown(3));
        illegalArgument("shown most", () -> x.shown(Integer.MAX_VALUE));
        illegalArgument("shown -1", () -> x.shown(-1));
        due("last 0", 1, () -> x.last(0));
        due("last 1", 0, () -> x.last(1));
        for (int wild : WILD) {
            illegalArgument("last(" + wild + ")", () -> x.last(wild));
        }
        illegalArgument("last(2)", () -> x.last(2));
        x.bar(0, true);
        due("row 1 alone", 3, () -> x.compare());
        due("row 1 alone, 0", 1, () -> x.shown(0));
        due("row 1 alone, 2", 1, () -> x.shown(2));
        x.bar(1, true);
        due("no ticks, alike", 0, () -> x.compare());
        due("no ticks, last", NONE, () -> x.last(0));
        illegalArgument("no ticks, shown", () -> x.shown(0));
        x.bar(0, false);
        due("row 0 alone, alike", 0, () -> x.compare());
        x.bar(1, false);
        x.block(1, NOT, 0);
        illegalState("compare", () -> x.compare());
        illegalState("shown", () -> x.shown(0));
        illegalState("shown beyond", () -> x.shown(100));
        illegalArgument("shown below, not right", () -> x.shown(-1));
        illegalState("last of the right one", () -> x.last(0));
        illegalState("last", () -> x.last(1));
        illegalArgument("last of none, not right", () -> x.last(2));
        leastRowsOfSeveral();
    }

    /** The difference shows in the second tick behind rows 2 and 3 alike, then by rows 1 and 3. */
    private static void leastRowsOfSeveral() {
        EditionEqual x = new EditionEqual(2);
        x.block(0, POINT, 0);
        x.block(0, POINT, 1);
        x.block(0, DELAY, 0);
        x.block(0, BOTH, 0);
        x.wire(0, 2, 0, 1);
        x.wire(0, 3, 0, 0);
        x.wire(0, 3, 1, 2);
        x.out(0, 2, 3);
        due("compare", 2, () -> x.compare());
        due("least first row", 2, () -> x.shown(0));
        due("least second row", 1, () -> x.shown(1));
        due("last 0", 4, () -> x.last(0));
        due("last 1", 0, () -> x.last(1));
        x.bar(2, true);
        due("least first row left", 3, () -> x.shown(0));
        due("least second row", 1, () -> x.shown(1));
        x.bar(1, true);
        due("least second row left", 3, () -> x.shown(1));
        x.block(1, POINT, 1);
        x.out(1, 2, 0);
        due("first tick differs", 1, () -> x.compare());
        due("first tick's row", 3, () -> x.shown(0));
        due("first tick's outs", 4, () -> x.last(1));
    }

    private static void promise15Pairs() {
        EditionEqual x = new EditionEqual(1);
        due("no blocks", 1, () -> x.pairs());
        delayed(x, 0, 2);
        due("one side", 4, () -> x.pairs());
        delayed(x, 1, 3);
        due("states go together", 8, () -> x.pairs());
        x.wire(1, 1, 0, 1);
        due("other edition stays", 4, () -> x.pairs());
        x.bar(1, true);
        due("row 0 alone", 1, () -> x.pairs());
        x.bar(0, true);
        due("all barred", 1, () -> x.pairs());
        x.wire(0, 1, 0, NONE);
        illegalState("edition 0 not right", () -> x.pairs());
        x.wire(0, 1, 0, 0);
        x.wire(1, 1, 0, NONE);
        illegalState("edition 1 not right", () -> x.pairs());
        EditionEqual y = new EditionEqual(4);
        mostStates(y, 0, 0);
        mostStates(y, 1, 2);
        due("all pairs of all states", 32 * 32, () -> y.pairs());
    }

    /** Five delays; two points feed two of them, the others follow behind in one chain. */
    private static void mostStates(EditionEqual x, int edition, int firstPoint) {
        x.block(edition, POINT, firstPoint);
        x.block(edition, POINT, firstPoint + 1);
        for (int i = 2; i < 7; i++) {
            x.block(edition, DELAY, 0);
            x.wire(edition, i, 0, i - 2);
        }
    }

    private static void promise16And17Same() {
        EditionEqual x = new EditionEqual(2);
        due("nothing is the same", true, () -> x.same());
        x.block(0, POINT, 1);
        x.block(0, NOT, 0);
        x.block(0, DELAY, 3);
        x.block(0, UNLIKE, 0);
        x.wire(0, 1, 0, 2);
        x.wire(0, 2, 0, 3);
        x.wire(0, 3, 0, 0);
        x.wire(0, 3, 1, 1);
        x.out(0, 1, 1);
        due("an output in one alone", false, () -> x.same());
        due("then none is matched", NONE, () -> x.matched(1));
        x.block(1, UNLIKE, 1);
        x.block(1, DELAY, 4);
        x.block(1, FIXED, 0);
        x.block(1, NOT, 1);
        x.block(1, POINT, 1);
        x.wire(1, 0, 0, 4);
        x.wire(1, 0, 1, 3);
        x.wire(1, 1, 0, 0);
        x.wire(1, 3, 0, 1);
        due("an output still in one alone", false, () -> x.same());
        x.out(1, 1, 3);
        due("same", true, () -> x.same());
        int[] partners = {4, 3, 1, 0};
        for (int block = 0; block < 4; block++) {
            int b = block;
            due("matched " + b, partners[b], () -> x.matched(b));
        }
        x.block(0, POINT, 1);
        due("idle ones are not matched", NONE, () -> x.matched(4));
        due("and do not count", true, () -> x.same());
        x.wire(0, 0, 0, 4);
        x.wire(0, 1, 1, 4);
        due("inputs that are not needed do not count", true, () -> x.same());
        x.out(0, 0, 4);
        x.out(1, 0, 4);
        due("matched with two, from edition 1", false, () -> x.same());
        due("not the same: none", NONE, () -> x.matched(0));
        x.wire(0, 3, 0, 4);
        due("one to one again", true, () -> x.same());
        due("now the other one", 4, () -> x.matched(4));
        due("and that one none", NONE, () -> x.matched(0));
        x.wire(1, 0, 0, 3);
        x.wire(1, 0, 1, 4);
        due("inputs changed round", false, () -> x.same());
        sortsOfBlocks();
        matchedWithTwo();
        idleFirstAndAllMatched();
        for (int wild : WILD) {
            illegalArgument("matched(" + wild + ")", () -> x.matched(wild));
        }
        illegalArgument("matched(5)", () -> x.matched(5));
        x.block(1, NOT, 0);
        illegalState("same, edition 1 not right", () -> x.same());
        illegalState("matched, edition 1 not right", () -> x.matched(0));
        illegalArgument("matched, no block, not right", () -> x.matched(5));
        x.wire(1, 5, 0, 4);
        x.wire(0, 1, 0, NONE);
        illegalState("same, edition 0 not right", () -> x.same());
    }

    private static void sortsOfBlocks() {
        int[][] sorts = {{POINT, 0}, {POINT, 1}, {FIXED, 0}, {FIXED, 1}, {NOT, 0}, {BOTH, 0}, {EITHER, 0}, {UNLIKE, 0},
            {DELAY, 0}};
        for (int[] one : sorts) {
            for (int[] other : sorts) {
                EditionEqual x = new EditionEqual(2);
                putSort(x, 0, one);
                putSort(x, 1, other);
                due("sorts " + one[0] + "." + one[1] + " and " + other[0] + "." + other[1], one == other, () -> x.same());
                due("their blocks", one == other ? 1 : NONE, () -> x.matched(1));
            }
        }
        EditionEqual y = new EditionEqual(1);
        putSort(y, 0, new int[] {NOT, 5});
        putSort(y, 1, new int[] {NOT, -6});
        due("numbers of other kinds do not count", true, () -> y.same());
        EditionEqual z = new EditionEqual(1);
        putSort(z, 0, new int[] {DELAY, 0});
        z.block(1, DELAY, 0);
        z.block(1, POINT, 0);
        z.block(1, DELAY, 0);
        z.wire(1, 0, 0, 0);
        z.wire(1, 2, 0, 1);
        z.out(1, 0, 2);
        due("delays at other places", true, () -> z.same());
        due("the second delay", 2, () -> z.matched(1));
    }

    private static void putSort(EditionEqual x, int edition, int[] sort) {
        x.block(edition, POINT, 0);
        x.block(edition, sort[0], sort[1]);
        x.wire(edition, 1, 0, 0);
        x.wire(edition, 1, 1, 0);
        x.out(edition, 0, 1);
    }

    private static void idleFirstAndAllMatched() {
        EditionEqual x = new EditionEqual(1);
        for (int edition = 0; edition < 2; edition++) {
            x.block(edition, NOT, 0);
            x.block(edition, POINT, 0);
            x.wire(edition, 0, 0, 1);
        }
        due("all are idle", true, () -> x.same());
        x.out(0, 0, 1);
        x.out(1, 0, 1);
        due("an idle block 0 with an input", true, () -> x.same());
        due("it is not matched", NONE, () -> x.matched(0));
        due("the other one is", 1, () -> x.matched(1));
        EditionEqual y = new EditionEqual(1);
        for (int i = 0; i < 24; i++) {
            y.block(0, i == 0 ? POINT : NOT, 0);
            y.block(1, i == 23 ? POINT : NOT, 0);
        }
        for (int i = 1; i < 24; i++) {
            y.wire(0, i, 0, i - 1);
            y.wire(1, 23 - i, 0, 24 - i);
        }
        y.out(0, 1, 23);
        y.out(1, 1, 0);
        due("all blocks in a chain", true, () -> y.same());
        for (int block = 0; block < 24; block++) {
            int b = block;
            due("chain's block " + b, 23 - b, () -> y.matched(b));
        }
    }

    private static void matchedWithTwo() {
        for (int edition = 0; edition < 2; edition++) {
            EditionEqual x = new EditionEqual(1);
            int other = 1 - edition;
            x.block(edition, POINT, 0);
            x.block(edition, POINT, 0);
            x.block(other, POINT, 0);
            x.out(edition, 0, 0);
            x.out(edition, 1, 1);
            x.out(other, 0, 0);
            x.out(other, 1, 0);
            due("a block matched with two of edition " + edition, false, () -> x.same());
            due("alike nonetheless", 0, () -> x.compare());
            x.out(edition, 1, 0);
            due("matched twice with one", true, () -> x.same());
        }
    }

    private static void promise18Idle() {
        EditionEqual x = new EditionEqual(1);
        due("no blocks", NONE, () -> x.idle(0, 0));
        x.block(0, NOT, 0);
        x.block(0, DELAY, 0);
        x.block(0, BOTH, 0);
        x.block(0, POINT, 0);
        x.block(0, FIXED, 0);
        for (int k = 0; k < 5; k++) {
            int at = k;
            due("all idle " + at, at, () -> x.idle(0, at));
        }
        due("no sixth", NONE, () -> x.idle(0, 5));
        due("far beyond", NONE, () -> x.idle(0, Integer.MAX_VALUE));
        x.out(0, 2, 0);
        due("an output is live", 1, () -> x.idle(0, 0));
        x.wire(0, 0, 0, 1);
        x.wire(0, 1, 0, 2);
        due("live through a delay, not right", 3, () -> x.idle(0, 0));
        x.wire(0, 2, 1, 3);
        due("input 1 of two", 4, () -> x.idle(0, 0));
        x.wire(0, 3, 0, 4);
        x.wire(0, 0, 1, 4);
        x.wire(0, 1, 1, 4);
        due("inputs not needed do not make live", 4, () -> x.idle(0, 0));
        due("no second", NONE, () -> x.idle(0, 1));
        x.wire(0, 2, 0, 0);
        due("a ring is live", 4, () -> x.idle(0, 0));
        x.out(0, 2, NONE);
        due("a ring alone is idle", 0, () -> x.idle(0, 0));
        due("the other edition", NONE, () -> x.idle(1, 0));
        for (int wild : WILD) {
            illegalArgument("idle(edition " + wild + ")", () -> x.idle(wild, 0));
        }
        illegalArgument("idle(2, 0)", () -> x.idle(2, 0));
        illegalArgument("idle(0, -1)", () -> x.idle(0, -1));
        illegalArgument("idle(0, least)", () -> x.idle(0, Integer.MIN_VALUE));
        EditionEqual y = new EditionEqual(1);
        for (int i = 0; i < 24; i++) {
            y.block(1, NOT, 0);
            y.wire(1, i, 0, i - 1);
        }
        y.out(1, 0, 23);
        due("a long chain is live", NONE, () -> y.idle(1, 0));
    }

    private static void promise19Blocks() {
        EditionEqual x = new EditionEqual(1);
        due("none", 0, () -> x.blocks(1));
        x.block(1, NOT, 0);
        due("one", 1, () -> x.blocks(1));
        due("none in the other", 0, () -> x.blocks(0));
        for (int wild : WILD) {
            illegalArgument("blocks(" + wild + ")", () -> x.blocks(wild));
        }
        illegalArgument("blocks(2)", () -> x.blocks(2));
    }

    private static void argumentBeforeState() {
        EditionEqual x = new EditionEqual(1);
        x.block(0, NOT, 0);
        x.block(1, NOT, 0);
        illegalArgument("value, no block", () -> x.value(0, 1, 0, 0));
        illegalArgument("value, no row", () -> x.value(0, 0, 0, 2));
        illegalArgument("tick, no row", () -> x.tick(0, 0, 2));
        illegalArgument("tick, no edition", () -> x.tick(2, 0, 0));
        illegalArgument("reached, no edition", () -> x.reached(2));
        illegalArgument("state, place below 0", () -> x.state(0, -1));
        illegalArgument("least, no edition", () -> x.least(-1));
        illegalArgument("shown, below 0", () -> x.shown(-1));
        illegalState("shown, 0", () -> x.shown(0));
        illegalArgument("last, no edition", () -> x.last(2));
        illegalArgument("matched, no block", () -> x.matched(1));
        illegalState("matched, a block", () -> x.matched(0));
    }

    /** Each change shows in the next answer, whatever was asked before it. */
    private static void answersFollowChanges() {
        EditionEqual x = new EditionEqual(1);
        delayed(x, 0, 1);
        delayed(x, 1, 1);
        due("alike", 0, () -> x.compare());
        x.out(1, 0, 0);
        due("behind out", 1, () -> x.compare());
        x.bar(1, true);
        due("behind bar", 0, () -> x.compare());
        x.bar(1, false);
        due("behind bar off", 1, () -> x.compare());
        x.out(1, 0, 1);
        x.block(1, FIXED, 1);
        due("behind block", 0, () -> x.compare());
        x.wire(1, 1, 0, 2);
        due("behind wire", 2, () -> x.compare());
        due("value behind wire", 8 * 1, () -> x.tick(1, 0, 0));
        due("reached behind wire", 2, () -> x.reached(1));
        x.bar(0, true);
        due("shown behind bar", 2, () -> x.pairs());
        due("value behind wire", 1, () -> x.value(1, 2, 0, 1));
        x.block(1, FIXED, 1);
        due("value of a block added behind a question", 1, () -> x.value(1, 3, 0, 1));
        x.block(1, POINT, 0);
        due("value of a point added behind a question", 1, () -> x.value(1, 4, 0, 1));
    }
}
