import java.util.ArrayList;
import java.util.HashMap;
import java.util.HashSet;
import java.util.List;
import java.util.Map;
import java.util.Random;
import java.util.Set;
import java.util.TreeSet;

/**
 * Long runs of calls by fixed seeds, wrong calls among them, each answer compared with that of a
 * slow model written straight from the document's terms, in other ways than the program's.
 */
public final class ReferenceTest {
    private static final int NONE = -1;
    private static final int RUNS = 800;
    private static final int CALLS = 512;
    private static final int MOST_TOLD = 20;

    private static int failures = 0;

    /** A block as the document tells it. */
    private static final class Part {
        final int kind;
        final int number;
        final int[] wires = {NONE, NONE};

        Part(int kind, int number) {
            this.kind = kind;
            this.number = number;
        }

        boolean needs(int input) {
            return input == 0 ? kind >= 2 && kind <= 6 : kind >= 3 && kind <= 5;
        }
    }

    /** One edition, each question answered anew. */
    private static final class Side {
        final List<Part> parts = new ArrayList<>();
        final int[] outputs = {NONE, NONE, NONE};

        boolean has(int block) {
            return block >= 0 && block < parts.size();
        }

        List<Integer> delays() {
            List<Integer> found = new ArrayList<>();
            for (int i = 0; i < parts.size(); i++) {
                if (parts.get(i).kind == 6) {
                    found.add(i);
                }
            }
            return found;
        }

        Set<Integer> nextTo(int block) {
            Set<Integer> found = new HashSet<>();
            for (int input = 0; input < 2; input++) {
                if (parts.get(block).needs(input) && parts.get(block).wires[input] != NONE) {
                    found.add(parts.get(block).wires[input]);
                }
            }
            return found;
        }

        int wrong() {
            for (int i = 0; i < parts.size(); i++) {
                Part part = parts.get(i);
                if (part.needs(0) && part.wires[0] == NONE || part.needs(1) && part.wires[1] == NONE) {
                    return i;
                }
            }
            for (int i = 0; i < parts.size(); i++) {
                if (parts.get(i).kind != 6 && comesTo(nextTo(i), i)) {
                    return i;
                }
            }
            return NONE;
        }

        private boolean comesTo(Set<Integer> from, int goal) {
            Set<Integer> seen = new HashSet<>(from);
            List<Integer> open = new ArrayList<>(from);
            while (!open.isEmpty()) {
                int at = open.remove(open.size() - 1);
                if (parts.get(at).kind != 6) {
                    for (int next : nextTo(at)) {
                        if (seen.add(next)) {
                            open.add(next);
                        }
                    }
                }
            }
            return seen.contains(goal);
        }

        int value(int block, int state, int row) {
            Part part = parts.get(block);
            switch (part.kind) {
                case 0:
                    return row >> part.number & 1;
                case 1:
                    return part.number;
                case 2:
                    return 1 - value(part.wires[0], state, row);
                case 3:
                    return Math.min(value(part.wires[0], state, row), value(part.wires[1], state, row));
                case 4:
                    return Math.max(value(part.wires[0], state, row), value(part.wires[1], state, row));
                case 5:
                    return value(part.wires[0], state, row) == value(part.wires[1], state, row) ? 0 : 1;
                default:
                    return state >> delays().indexOf(block) & 1;
            }
        }

        int outs(int state, int row) {
            int sum = 0;
            for (int o = 0; o < 3; o++) {
                sum += outputs[o] == NONE ? 0 : value(outputs[o], state, row) << o;
            }
            return sum;
        }

        int next(int state, int row) {
            int sum = 0;
            int place = 0;
            for (int delay : delays()) {
                sum += value(parts.get(delay).wires[0], state, row) << place;
                place++;
            }
            return sum;
        }

        List<Integer> idle() {
            Set<Integer> live = new HashSet<>();
            for (int output : outputs) {
                makeLive(output, live);
            }
            List<Integer> found = new ArrayList<>();
            for (int i = 0; i < parts.size(); i++) {
                if (!live.contains(i)) {
                    found.add(i);
                }
            }
            return found;
        }

        private void makeLive(int block, Set<Integer> live) {
            if (block != NONE && live.add(block)) {
                for (int next : nextTo(block)) {
                    makeLive(next, live);
                }
            }
        }
    }

    /** Both editions; what is dear to ask is kept until the next change. */
    private static final class Model {
        final int points;
        final Side[] sides = {new Side(), new Side()};
        final Set<Integer> barred = new HashSet<>();
        int[][][] outs = new int[2][][];
        int[][][] nexts = new int[2][][];
        List<Integer> shown = null;
        int[] last = {NONE, NONE};

        Model(int points) {
            this.points = Math.max(1, Math.min(4, points));
        }

        int rows() {
            return 1 << points;
        }

        void changed() {
            outs = new int[2][][];
            nexts = new int[2][][];
            shown = null;
        }

        void table(int edition) {
            if (outs[edition] != null) {
                return;
            }
            int states = 1 << sides[edition].delays().size();
            outs[edition] = new int[states][rows()];
            nexts[edition] = new int[states][rows()];
            for (int s = 0; s < states; s++) {
                for (int r = 0; r < rows(); r++) {
                    outs[edition][s][r] = sides[edition].outs(s, r);
                    nexts[edition][s][r] = sides[edition].next(s, r);
                }
            }
        }

        TreeSet<Integer> reached(int edition) {
            table(edition);
            TreeSet<Integer> found = new TreeSet<>(Set.of(0));
            boolean grown = true;
            while (grown) {
                TreeSet<Integer> more = new TreeSet<>(found);
                for (int s : found) {
                    for (int r = 0; r < rows(); r++) {
                        if (!barred.contains(r)) {
                            more.add(nexts[edition][s][r]);
                        }
                    }
                }
                grown = more.size() > found.size();
                found = more;
            }
            return found;
        }

        int least(int edition) {
            TreeSet<Integer> states = reached(edition);
            Set<Integer> apart = new HashSet<>();
            boolean grown = true;
            while (grown) {
                grown = false;
                for (int s : states) {
                    for (int t : states) {
                        if (!apart.contains(s * 32 + t) && partNow(edition, s, t, apart)) {
                            apart.add(s * 32 + t);
                            grown = true;
                        }
                    }
                }
            }
            List<Integer> heads = new ArrayList<>();
            for (int s : states) {
                boolean isNew = true;
                for (int head : heads) {
                    isNew &= apart.contains(s * 32 + head);
                }
                if (isNew) {
                    heads.add(s);
                }
            }
            return heads.size();
        }

        private boolean partNow(int edition, int s, int t, Set<Integer> apart) {
            for (int r = 0; r < rows(); r++) {
                if (!barred.contains(r) && (outs[edition][s][r] != outs[edition][t][r]
                        || apart.contains(nexts[edition][s][r] * 32 + nexts[edition][t][r]))) {
                    return true;
                }
            }
            return false;
        }

        int pairs() {
            return allPairs().size();
        }

        private Set<Integer> allPairs() {
            table(0);
            table(1);
            Set<Integer> found = new HashSet<>(Set.of(0));
            List<Integer> open = new ArrayList<>(found);
            while (!open.isEmpty()) {
                int pair = open.remove(open.size() - 1);
                for (int r = 0; r < rows(); r++) {
                    int next = nextPair(pair, r);
                    if (!barred.contains(r) && found.add(next)) {
                        open.add(next);
                    }
                }
            }
            return found;
        }

        private int nextPair(int pair, int row) {
            return nexts[0][pair / 32][row] * 32 + nexts[1][pair % 32][row];
        }

        /** From how many rows at least each pair differs, backwards; then the least rows forwards. */
        void show() {
            if (shown != null) {
                return;
            }
            Set<Integer> all = allPairs();
            Map<Integer, Integer> rest = new HashMap<>();
            for (int length = 1; length <= all.size(); length++) {
                Map<Integer, Integer> more = new HashMap<>();
                for (int pair : all) {
                    for (int r = 0; r < rows() && !rest.containsKey(pair); r++) {
                        if (!barred.contains(r) && (length == 1 ? differ(pair, r)
                                : rest.getOrDefault(nextPair(pair, r), 0) == length - 1)) {
                            more.put(pair, length);
                        }
                    }
                }
                rest.putAll(more);
            }
            shown = new ArrayList<>();
            last = new int[] {NONE, NONE};
            int pair = 0;
            for (int left = rest.getOrDefault(0, 0); left > 0; left--) {
                int row = 0;
                while (barred.contains(row) || (left == 1 ? !differ(pair, row)
                        : rest.getOrDefault(nextPair(pair, row), 0) != left - 1)) {
                    row++;
                }
                shown.add(row);
                last = new int[] {outs[0][pair / 32][row], outs[1][pair % 32][row]};
                pair = nextPair(pair, row);
            }
        }

        private boolean differ(int pair, int row) {
            return outs[0][pair / 32][row] != outs[1][pair % 32][row];
        }

        Set<Integer> matches() {
            Set<Integer> found = new HashSet<>();
            for (int o = 0; o < 3; o++) {
                addMatch(sides[0].outputs[o], sides[1].outputs[o], found);
            }
            return found;
        }

        private void addMatch(int one, int other, Set<Integer> found) {
            if (one != NONE && other != NONE && found.add(one * 32 + other)) {
                Part p = sides[0].parts.get(one);
                Part q = sides[1].parts.get(other);
                for (int input = 0; input < 2; input++) {
                    if (p.needs(input) && q.needs(input)) {
                        addMatch(p.wires[input], q.wires[input], found);
                    }
                }
            }
        }

        boolean same() {
            for (int o = 0; o < 3; o++) {
                if ((sides[0].outputs[o] == NONE) != (sides[1].outputs[o] == NONE)) {
                    return false;
                }
            }
            Set<Integer> found = matches();
            Set<Integer> ones = new HashSet<>();
            Set<Integer> others = new HashSet<>();
            for (int match : found) {
                Part p = sides[0].parts.get(match / 32);
                Part q = sides[1].parts.get(match % 32);
                if (p.kind != q.kind || p.kind <= 1 && p.number != q.number) {
                    return false;
                }
                if (!ones.add(match / 32) || !others.add(match % 32)) {
                    return false;
                }
            }
            return true;
        }

        int matched(int block) {
            for (int match : matches()) {
                if (same() && match / 32 == block) {
                    return match % 32;
                }
            }
            return NONE;
        }
    }

    private static final String[] NAMES = {"block", "wire", "out", "bar", "wrong", "value", "tick", "reached", "state",
        "least", "compare", "shown", "last", "pairs", "same", "matched", "idle", "blocks"};

    /** What the program answers; an exception is told by its name. */
    private static String ask(EditionEqual x, int call, int[] a) {
        try {
            switch (call) {
                case 0: return "" + x.block(a[0], a[1], a[2]);
                case 1: return "" + x.wire(a[0], a[1], a[2], a[3]);
                case 2: return "" + x.out(a[0], a[1], a[2]);
                case 3: return "" + x.bar(a[0], a[1] != 0);
                case 4: return "" + x.wrong(a[0]);
                case 5: return "" + x.value(a[0], a[1], a[2], a[3]);
                case 6: return "" + x.tick(a[0], a[1], a[2]);
                case 7: return "" + x.reached(a[0]);
                case 8: return "" + x.state(a[0], a[1]);
                case 9: return "" + x.least(a[0]);
                case 10: return "" + x.compare();
                case 11: return "" + x.shown(a[0]);
                case 12: return "" + x.last(a[0]);
                case 13: return "" + x.pairs();
                case 14: return "" + x.same();
                case 15: return "" + x.matched(a[0]);
                case 16: return "" + x.idle(a[0], a[1]);
                default: return "" + x.blocks(a[0]);
            }
        } catch (RuntimeException e) {
            return e.getClass().getSimpleName();
        }
    }

    private static final String ARGUMENT = "IllegalArgumentException";
    private static final String STATE = "IllegalStateException";

    private static boolean within(int number, int bound) {
        return number >= 0 && number < bound;
    }

    /** What is due, and the change that the call makes in the model. */
    private static String due(Model m, int call, int[] a) {
        boolean asksEdition = call != 3 && call != 10 && call != 11 && call != 13 && call != 14 && call != 15;
        if (asksEdition && !within(a[0], 2)) {
            return ARGUMENT;
        }
        Side side = asksEdition ? m.sides[a[0]] : null;
        switch (call) {
            case 0: return dueBlock(m, side, a);
            case 1: return dueWire(m, side, a);
            case 2: return dueOut(m, side, a);
            case 3: return dueBar(m, a);
            case 4: return "" + side.wrong();
            case 16: return a[1] < 0 ? ARGUMENT : "" + (a[1] < side.idle().size() ? side.idle().get(a[1]) : NONE);
            case 17: return "" + side.parts.size();
            default: return call < 10 ? dueOfOne(m, side, call, a) : dueOfBoth(m, call, a);
        }
    }

    private static String dueBlock(Model m, Side side, int[] a) {
        if (!within(a[1], 7) || a[1] == 0 && !within(a[2], m.points) || a[1] == 1 && !within(a[2], 2)) {
            return ARGUMENT;
        }
        if (side.parts.size() == 24 || a[1] == 6 && side.delays().size() == 5) {
            return STATE;
        }
        m.changed();
        side.parts.add(new Part(a[1], a[2]));
        return "" + (side.parts.size() - 1);
    }

    private static String dueWire(Model m, Side side, int[] a) {
        if (!side.has(a[1]) || !within(a[2], 2) || a[3] != NONE && !side.has(a[3])) {
            return ARGUMENT;
        }
        int was = side.parts.get(a[1]).wires[a[2]];
        side.parts.get(a[1]).wires[a[2]] = a[3];
        m.changed();
        return "" + was;
    }

    private static String dueOut(Model m, Side side, int[] a) {
        if (!within(a[1], 3) || a[2] != NONE && !side.has(a[2])) {
            return ARGUMENT;
        }
        int was = side.outputs[a[1]];
        side.outputs[a[1]] = a[2];
        m.changed();
        return "" + was;
    }

    private static String dueBar(Model m, int[] a) {
        if (!within(a[0], m.rows())) {
            return ARGUMENT;
        }
        m.changed();
        return "" + (a[1] != 0 ? !m.barred.add(a[0]) : m.barred.remove(a[0]));
    }

    private static String dueOfOne(Model m, Side side, int call, int[] a) {
        boolean illegal = call == 5 && (!side.has(a[1]) || !within(a[3], m.rows()))
                || call == 6 && !within(a[2], m.rows()) || call == 8 && a[1] < 0;
        if (illegal) {
            return ARGUMENT;
        }
        if (side.wrong() != NONE) {
            return STATE;
        }
        switch (call) {
            case 5: return "" + side.value(a[1], a[2], a[3]);
            case 6:
                m.table(a[0]);
                int state = a[1] & (m.outs[a[0]].length - 1);
                return "" + (m.outs[a[0]][state][a[2]] + 8 * m.nexts[a[0]][state][a[2]]);
            case 7: return "" + m.reached(a[0]).size();
            case 8:
                List<Integer> found = new ArrayList<>(m.reached(a[0]));
                return "" + (a[1] < found.size() ? found.get(a[1]) : NONE);
            default: return "" + m.least(a[0]);
        }
    }

    private static String dueOfBoth(Model m, int call, int[] a) {
        if (call == 11 && a[0] < 0 || call == 15 && !m.sides[0].has(a[0])) {
            return ARGUMENT;
        }
        if (m.sides[0].wrong() != NONE || m.sides[1].wrong() != NONE) {
            return STATE;
        }
        switch (call) {
            case 13: return "" + m.pairs();
            case 14: return "" + m.same();
            case 15: return "" + m.matched(a[0]);
            default:
                m.show();
        }
        if (call == 10) {
            return "" + m.shown.size();
        }
        if (call == 11) {
            return a[0] < m.shown.size() ? "" + m.shown.get(a[0]) : ARGUMENT;
        }
        return "" + m.last[a[0]];
    }

    /** A run of calls on one object and its model, until both have had all calls. */
    private static final class Run {
        final Random random;
        final int seed;
        final int points;
        final EditionEqual program;
        final Model model;
        final StringBuilder story = new StringBuilder();
        int calls = 0;

        Run(int seed) {
            this.seed = seed;
            random = new Random(seed);
            points = random.nextInt(10) == 0 ? random.nextInt(9) - 2 : 1 + random.nextInt(4);
            program = new EditionEqual(points);
            model = new Model(points);
        }

        void call(int call, int... arguments) {
            if (calls >= CALLS) {
                return;
            }
            calls++;
            String want = due(model, call, arguments);
            String got = ask(program, call, arguments);
            story.append(NAMES[call]).append(java.util.Arrays.toString(arguments)).append(" -> ").append(want).append('\n');
            if (!want.equals(got)) {
                failures++;
                if (failures <= MOST_TOLD) {
                    System.out.println("seed " + seed + ", points " + points + "\n" + story + " but answered " + got);
                }
            }
        }

        int wild(int number) {
            switch (random.nextInt(60)) {
                case 0: return -1 - random.nextInt(2);
                case 1: return random.nextInt(40);
                case 2: return random.nextBoolean() ? Integer.MAX_VALUE : Integer.MIN_VALUE;
                default: return number;
            }
        }

        int some(int bound) {
            return bound <= 0 ? 0 : random.nextInt(bound);
        }

        void build(int edition) {
            int size = random.nextInt(4) == 0 ? 24 : 2 + random.nextInt(14);
            boolean loose = random.nextInt(5) == 0;
            for (int i = 0; i < size; i++) {
                int kind = i < 2 ? some(2) * some(2) : random.nextInt(3) == 0 ? 6 : some(7);
                int number = kind == 0 ? some(model.points) : kind == 1 ? some(2) : some(50) - 20;
                call(0, edition, wild(kind), wild(number));
            }
            int blocks = model.sides[edition].parts.size();
            for (int i = 0; i < blocks; i++) {
                Part part = model.sides[edition].parts.get(i);
                for (int input = 0; input < 2; input++) {
                    if (part.needs(input) || random.nextInt(8) == 0) {
                        boolean anywhere = part.kind == 6 || loose && random.nextInt(6) == 0 || !part.needs(input);
                        call(1, edition, i, input, anywhere ? some(blocks) : i - 1 - some(Math.min(i, 8)));
                    }
                }
            }
            for (int output = 0; output < 3; output++) {
                if (random.nextInt(3) != 0) {
                    call(2, edition, output, some(blocks));
                }
            }
        }

        /** Delays in a chain with feedback, seen only at the chain's end: differences show late. */
        void buildDeep(int edition) {
            call(0, edition, 0, 0);
            int delays = 3 + some(3);
            for (int i = 1; i <= delays; i++) {
                call(0, edition, 6, 0);
            }
            for (int i = 1; i <= delays; i++) {
                call(0, edition, 3 + some(3), 0);
                call(1, edition, delays + i, 0, i == 1 ? 0 : i - 1);
                call(1, edition, delays + i, 1, 1 + some(delays));
                call(1, edition, i, 0, random.nextInt(3) == 0 ? delays + i : i - 1);
            }
            call(0, edition, 3 + some(3), 0);
            call(1, edition, 2 * delays + 1, 0, delays);
            call(1, edition, 2 * delays + 1, 1, 1 + some(delays));
            call(2, edition, some(3), random.nextBoolean() ? delays : 2 * delays + 1);
        }

        /** One edition as the other one with its blocks in another order, so that same and alike come up. */
        void copy(int source) {
            Side from = model.sides[source];
            int blocks = from.parts.size();
            List<Integer> order = new ArrayList<>();
            for (int i = 0; i < blocks; i++) {
                order.add(i);
            }
            java.util.Collections.shuffle(order, random);
            for (int old : order) {
                call(0, 1 - source, from.parts.get(old).kind, from.parts.get(old).number);
            }
            for (int i = 0; i < blocks; i++) {
                for (int input = 0; input < 2; input++) {
                    int to = from.parts.get(order.get(i)).wires[input];
                    call(1, 1 - source, i, input, to == NONE ? NONE : order.indexOf(to));
                }
            }
            for (int output = 0; output < 3; output++) {
                int block = from.outputs[output];
                call(2, 1 - source, output, block == NONE ? NONE : order.indexOf(block));
            }
        }

        void change() {
            int edition = some(2);
            int blocks = model.sides[edition].parts.size();
            switch (random.nextInt(6)) {
                case 0:
                    int kind = some(7);
                    call(0, wild(edition), wild(kind), wild(kind == 0 ? some(model.points) : some(2)));
                    break;
                case 1:
                case 2:
                    int block = some(blocks);
                    int to = random.nextInt(12) == 0 ? NONE : random.nextInt(3) == 0 ? some(blocks) : some(block);
                    call(1, wild(edition), wild(block), wild(some(2)), wild(to));
                    break;
                case 3:
                    call(2, wild(edition), wild(some(3)), wild(random.nextInt(6) == 0 ? NONE : some(blocks)));
                    break;
                default:
                    call(3, wild(some(model.rows())), random.nextInt(3) == 0 ? 1 : 0);
            }
        }

        /** Wires wrong blocks to ones that hang on nothing in the tick, so that runs do not stay wrong. */
        void mend(int edition) {
            Side side = model.sides[edition];
            List<Integer> firm = new ArrayList<>();
            for (int i = 0; i < side.parts.size(); i++) {
                if (side.parts.get(i).kind <= 1 || side.parts.get(i).kind == 6) {
                    firm.add(i);
                }
            }
            for (int block = side.wrong(); block != NONE && !firm.isEmpty() && calls < CALLS; block = side.wrong()) {
                for (int input = 0; input < 2; input++) {
                    if (side.parts.get(block).needs(input)) {
                        call(1, edition, block, input, firm.get(some(firm.size())));
                    }
                }
            }
        }

        void question() {
            int edition = wild(some(2));
            int call = 4 + some(14);
            int blocks = within(edition, 2) ? model.sides[edition].parts.size() : 1;
            switch (call) {
                case 5: call(call, edition, wild(some(blocks)), random.nextInt(), wild(some(model.rows()))); break;
                case 6: call(call, edition, random.nextInt(), wild(some(model.rows()))); break;
                case 8: call(call, edition, wild(some(random.nextBoolean() ? 4 : 33))); break;
                case 11: call(call, wild(some(6))); break;
                case 15: call(call, wild(some(model.sides[0].parts.size()))); break;
                case 16: call(call, edition, wild(some(8))); break;
                default: call(call, edition);
            }
        }

        void wholeLook() {
            for (int edition = 0; edition < 2; edition++) {
                for (int call : new int[] {4, 7, 9, 12, 17}) {
                    call(call, edition);
                }
                for (int place = 0; place < 4; place++) {
                    call(8, edition, place);
                    call(16, edition, place);
                }
            }
            call(10);
            call(13);
            call(14);
            int count = model.shown == null ? 0 : model.shown.size();
            for (int k = -1; k <= count; k++) {
                call(11, k);
            }
            for (int block = 0; block < model.sides[0].parts.size(); block++) {
                call(15, block);
            }
        }

        void play() {
            int first = some(2);
            if (random.nextInt(3) == 0) {
                buildDeep(first);
            } else {
                build(first);
            }
            if (random.nextBoolean()) {
                copy(first);
            } else {
                build(1 - first);
            }
            if (random.nextInt(4) != 0) {
                mend(0);
                mend(1);
            }
            wholeLook();
            while (calls < CALLS) {
                if (random.nextInt(7) == 0) {
                    change();
                    if (random.nextInt(3) != 0) {
                        mend(0);
                        mend(1);
                    }
                } else {
                    question();
                }
            }
        }
    }

    public static void main(String[] args) {
        int runs = args.length > 0 ? Integer.parseInt(args[0]) : RUNS;
        Map<String, Integer> seen = new java.util.TreeMap<>();
        for (int seed = 1; seed <= runs; seed++) {
            Run run = new Run(seed);
            run.play();
            if (args.length > 0) {
                for (String line : run.story.toString().split("\n")) {
                    String answer = line.replaceAll("\\[.*-> ", " ");
                    seen.merge(answer, 1, Integer::sum);
                }
            }
        }
        seen.forEach((answer, times) -> System.out.println(answer + ": " + times));
        System.out.println(failures == 0 ? "all runs answer as the model" : failures + " answers are not as due");
        if (failures != 0) {
            System.exit(1);
        }
    }
}
