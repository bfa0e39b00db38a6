import java.util.Arrays;
import java.util.Random;

/** Many runs of calls, drawn from fixed seeds, on SweepKeeper and on Model: every answer must be the same. */
public final class ModelTest {
    private static final int RUNS = 1400, CALLS = 512;
    private static final int[] ARGUMENTS = {1, 2, 1, 1, 1, 1, 3, 2, 2, 1, 2, 3, 2, 3, 2, 2, 1, 5, 0, 3, 2,
        1, 0, 0, 1, 1, 2, 1, 1, 0, 0, 1, 2, 0, 0, 5, 0, 1, 0, 1, 0, 0, 0, 0, 1};
    private static final int[] EDGES = {-2, -1, 0, 1, 2, 3, 5, 7, 8, 23, 24, 299, 300, 301, 499, 500, 501, 1000, 1001,
        Integer.MIN_VALUE, Integer.MAX_VALUE};
    private static final int[] UP_AND_DOWN = {16, 256, 257, 4000, 257, 256, 16};
    private static final int CALLS_BETWEEN = CALLS / UP_AND_DOWN.length;

    private final Random random;
    private final SweepKeeper x = new SweepKeeper();
    private final Model model = new Model();
    private final int mood;
    private final StringBuilder log = new StringBuilder();
    private int made;

    private ModelTest(int seed) {
        random = new Random(seed);
        mood = seed % 7;
    }

    public static void main(String[] args) {
        for (int seed = 0; seed < RUNS && Due.allRight(); seed++) {
            new ModelTest(seed).run(seed);
        }
        Due.end();
    }

    private void run(int seed) {
        if (mood == 1) {
            both(0, 16 + random.nextInt(60));
        } else if (mood == 2) {
            both(0, 1000 + random.nextInt(3001));
        }
        if (mood == 3 || mood == 4) {
            program();
        }
        for (int k = 0; k < CALLS && Due.allRight(); k++) {
            if (mood == 6 && k % CALLS_BETWEEN == 0) {
                compareAll();
                both(0, UP_AND_DOWN[k / CALLS_BETWEEN % UP_AND_DOWN.length]);
            }
            int op = drawOp();
            both(op, drawArguments(op));
            if (random.nextInt(100) == 0) {
                compareAll();
            }
        }
        compareAll();
        if (!Due.allRight()) {
            System.out.println("seed " + seed + ":" + log);
        }
    }

    private int both(int op, int... v) {
        int want = model.call(op, v);
        int got = call(x, op, v);
        log.append("\n  ").append(op).append(' ').append(Arrays.toString(v)).append(" -> ").append(got);
        Due.is("call " + op + " " + Arrays.toString(v), want, got);
        if (op == 1 && want >= 0 || op == 37 || op == 41 || op == 42 || op == 0) {
            made = model.call(27, 2);
        }
        return want;
    }

    private void program() {
        int acts = 1 + random.nextInt(40);
        for (int k = 0; k < acts; k++) {
            both(35, drawArguments(35));
        }
    }

    private int drawOp() {
        int[] common = {1, 1, 6, 6, 6, 15, 15, 21, 21, 8, 9, 17};
        int[] ofPaper = {32, 32, 34, 34, 34, 33, 22, 21};
        int[] ofProgram = {37, 37, 37, 35, 21, 42, 38};
        int[] ofImages = {40, 41, 42, 21, 37};
        int r = random.nextInt(10);
        if (r < 4) {
            return common[random.nextInt(common.length)];
        }
        if (r < 7) {
            int[] own = mood == 5 ? ofPaper : mood == 3 || mood == 4 ? ofProgram : mood == 0 || mood == 6 ? ofImages : common;
            return own[random.nextInt(own.length)];
        }
        int op = random.nextInt(45);
        return op == 0 && random.nextInt(8) != 0 || op == 36 && random.nextInt(4) != 0 ? 4 : op;
    }

    private int edge() {
        return EDGES[random.nextInt(EDGES.length)];
    }

    private int handle() {
        int r = random.nextInt(24);
        if (r == 0) {
            return made + random.nextInt(2);
        }
        if (r == 1) {
            return edge();
        }
        return made == 0 ? 0 : Math.max(random.nextInt(made), random.nextInt(made));
    }

    private int handleOrNone() {
        return random.nextInt(6) == 0 ? -1 : handle();
    }

    private int small(int bound) {
        return random.nextInt(20) == 0 ? edge() : random.nextInt(bound);
    }

    private int count() {
        return random.nextInt(30) == 0 ? edge() : random.nextInt(mood == 2 || mood == 6 && random.nextInt(4) == 0 ? 120 : 7);
    }

    private int[] drawArguments(int op) {
        switch (op) {
            case 0: return new int[] {random.nextInt(3) == 0 ? edge() : 16 + random.nextInt(400)};
            case 1: return new int[] {small(6), count()};
            case 6: return new int[] {handle(), small(4), handleOrNone()};
            case 8: return new int[] {handle(), handleOrNone()};
            case 10: return new int[] {handle(), random.nextInt(3) == 0 ? -11 - random.nextInt(8) : random.nextInt()};
            case 11: return new int[] {handle(), small(9), random.nextInt()};
            case 13: return new int[] {handle(), small(4), random.nextInt(4)};
            case 15: return new int[] {small(24), handleOrNone()};
            case 17: return new int[] {handle(), small(4), handle(), small(4), small(5)};
            case 19: return new int[] {small(4), small(8), handleOrNone()};
            case 20: return new int[] {small(4), small(8)};
            case 21: return new int[] {random.nextInt(8) == 0 ? edge() : random.nextInt(12)};
            case 26: return new int[] {small(100), small(3)};
            case 28: return new int[] {small(256)};
            case 32: return new int[] {paperPlace(), paperNumber()};
            case 35: return act();
            case 37: return new int[] {small(60)};
            default: return drawPlain(op);
        }
    }

    private int[] drawPlain(int op) {
        int[] v = new int[ARGUMENTS[op]];
        for (int k = 0; k < v.length; k++) {
            v[k] = k == 0 && (op <= 14 || op == 24 || op == 25) ? handle() : small(28);
        }
        return v;
    }

    private int paperPlace() {
        int rows = x.rows();
        return rows == 0 || random.nextInt(30) == 0 ? edge() : random.nextInt(4) == 0 ? rows - 1 - random.nextInt(
            Math.min(rows, 8)) : random.nextInt(rows);
    }

    private int paperNumber() {
        int rows = x.rows();
        int r = random.nextInt(4);
        if (rows == 0 || r == 0) {
            return edge();
        }
        if (r == 1) {
            return sumOfPaper();
        }
        return x.row(random.nextInt(rows)) + (r == 2 ? random.nextInt(3) - 1 : 0);
    }

    private int sumOfPaper() {
        int s = 1;
        for (int k = 0; k < x.rows() - 1; k++) {
            s = 31 * s + x.row(k);
        }
        return s;
    }

    private int[] act() {
        int what = small(13);
        int[] ways = {0, 0, 0, 1, 1, 2, 3, 9, 9};
        if (random.nextInt(2) == 0) {
            what = ways[random.nextInt(ways.length)];
        }
        int a = what == 9 ? small(10) : what == 10 ? random.nextInt(2) : small(4);
        int c = what == 0 ? count() : what == 11 ? random.nextInt() : small(4);
        return new int[] {what == 10 && random.nextInt(4) != 0 ? 4 : what, a, small(4), c, small(4)};
    }

    /** Asks for all that can be asked. */
    private void compareAll() {
        for (int what = 0; what < 16; what++) {
            both(27, what);
        }
        for (int h = 0; h < made; h++) {
            for (int op = 2; op < 6; op++) {
                both(op, h);
            }
            both(24, h);
            both(25, h);
        }
        for (int k = 0; k < 32; k++) {
            both(20, k / 8, k % 8);
        }
        for (int k = 0; k < x.rows(); k++) {
            both(31, k);
        }
        for (int k = 0; k < 8; k++) {
            both(39, k);
        }
        for (int k = 0; k < 14; k++) {
            both(44, k);
        }
        for (int k = 0; k < 30; k++) {
            both(26, k % 10, k / 10);
        }
        for (int k = 0; k < 40; k++) {
            both(28, k);
        }
        for (int k = 0; k < 8; k++) {
            both(28, x.about(0) - 1 - k);
        }
        both(29);
        both(43);
        if (model.call(30) > 0) {
            both(34);
        }
    }

    static int call(SweepKeeper x, int op, int[] v) {
        switch (op) {
            case 0: return x.size(v[0]);
            case 1: return x.make(v[0], v[1]);
            case 2: return x.kind(v[0]);
            case 3: return x.place(v[0]);
            case 4: return x.measure(v[0]);
            case 5: return x.links(v[0]);
            case 6: return x.link(v[0], v[1], v[2]);
            case 7: return x.get(v[0], v[1]);
            case 8: return x.weaken(v[0], v[1]);
            case 9: return x.look(v[0]);
            case 10: return x.number(v[0], v[1]);
            case 11: return x.put(v[0], v[1], v[2]);
            case 12: return x.byteAt(v[0], v[1]);
            case 13: return x.key(v[0], v[1], v[2]);
            case 14: return x.find(v[0], v[1]);
            case 15: return x.root(v[0], v[1]);
            case 16: return x.rootOf(v[0]);
            case 17: return x.copy(v[0], v[1], v[2], v[3], v[4]);
            case 18: return x.copied();
            case 19: return x.shelve(v[0], v[1], v[2]);
            case 20: return x.shelf(v[0], v[1]);
            case 21: return x.step(v[0]);
            case 22: return x.cycle();
            default: return callOther(x, op, v);
        }
    }

    private static int callOther(SweepKeeper x, int op, int[] v) {
        switch (op) {
            case 23: return x.phase();
            case 24: return x.marked(v[0]);
            case 25: return x.moved(v[0]);
            case 26: return x.told(v[0], v[1]);
            case 27: return x.about(v[0]);
            case 28: return x.word(v[0]);
            case 29: return x.digest();
            case 30: return x.rows();
            case 31: return x.row(v[0]);
            case 32: return x.forge(v[0], v[1]);
            case 33: return x.plain();
            case 34: return x.check();
            case 35: return x.act(v[0], v[1], v[2], v[3], v[4]);
            case 36: return x.clear();
            case 37: return x.run(v[0]);
            case 38: return x.found();
            case 39: return x.register(v[0]);
            case 40: return x.image();
            case 41: return x.load();
            case 42: return x.undoStep();
            case 43: return x.finding();
            default: return x.trace(v[0]);
        }
    }
}
