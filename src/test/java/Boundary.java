import java.util.LinkedHashSet;
import java.util.Set;
import java.util.function.Supplier;
import java.util.function.ToIntBiFunction;
import java.util.function.ToIntFunction;

/** Tests of boundary cases: each has a name of its own, which begins with the number of its promise. */
abstract class Boundary {
    static final int NONE = SweepKeeper.NONE, UNKNOWN = SweepKeeper.UNKNOWN, OUTSIDE = SweepKeeper.OUTSIDE;
    static final int NOT = SweepKeeper.NOT;
    static final int MIN = Integer.MIN_VALUE, MAX = Integer.MAX_VALUE;

    /** Findings, as finding() and found() tell them. */
    static final int GONE = 1, BEYOND = 2, KIND = 3, SIZE = 4, STORE = 5, ROOM = 6, FAIL = 7, FAIL_OF_NOTHING = 8;

    static final int PAIR = 0, ROW = 1, BYTES = 2, WEAK = 3, WATCHED = 4, TABLE = 5;

    /** The cells of six(): each bears its kind as its handle; one was given back, and the next was never made. */
    static final int BACK = 6, NEXT = 7;

    private static final Set<String> NAMES = new LinkedHashSet<>();
    private static String running = "";
    private static int answers;

    static void test(String name, Runnable body) {
        running = name;
        answers = 0;
        Due.isTrue(name + ": the name is its own", NAMES.add(name));
        try {
            body.run();
        } catch (RuntimeException e) {
            Due.isTrue(name + ": threw " + e, false);
        }
        Due.isTrue(name + ": it compares answers", answers > 0);
    }

    static void is(int want, int got) {
        answers++;
        Due.is(running + " (answer " + answers + ")", want, got);
    }

    /** Ends with 1 unless all tests passed, and each of these promises has one, and there is none of another. */
    static void end(int first, int last) {
        int[] tests = new int[last + 1];
        for (String name : NAMES) {
            String number = name.substring(0, Math.max(name.indexOf(' '), 0));
            int promise = number.matches("\\d{1,2}") ? Integer.parseInt(number) : 0;
            Due.isTrue(name + ": the name begins with a promise's number", promise >= first && promise <= last);
            if (promise >= first && promise <= last) {
                tests[promise]++;
            }
        }
        for (int promise = first; promise <= last; promise++) {
            Due.isTrue("promise " + promise + " has a test of its own", tests[promise] > 0);
        }
        System.out.println(NAMES.size() + " boundary tests of promises " + first + " to " + last);
        Due.end();
    }

    /** -10 less a finding. */
    static int telling(int finding) {
        return -10 - finding;
    }

    /** PAIR 0, ROW 1 of 3, BYTES 2 of 5, WEAK 3, WATCHED 4, TABLE 5 of 2, each in the root of its number; 6 is gone. */
    static SweepKeeper six() {
        SweepKeeper x = new SweepKeeper();
        int[] counts = {0, 3, 5, 0, 0, 2};
        for (int kind = PAIR; kind <= TABLE; kind++) {
            x.root(kind, x.make(kind, counts[kind]));
        }
        x.make(PAIR, 0);
        x.cycle();
        return x;
    }

    /** A heap of n ints. */
    static SweepKeeper sized(int n) {
        SweepKeeper x = new SweepKeeper();
        x.size(n);
        return x;
    }

    /** As many pairs as may be made, 500, of a heap that holds them all; register 0 has the latest. */
    static SweepKeeper fiveHundred() {
        SweepKeeper x = sized(4000);
        x.act(0, 0, PAIR, 0, 0);
        x.run(200);
        x.run(200);
        x.run(100);
        x.clear();
        return x;
    }

    /** A chain of n pairs (99 at most) by their links 0: root 0 has pair 0, and pair n - 1 leads nowhere. */
    static SweepKeeper chain(int n) {
        SweepKeeper x = sized(400);
        for (int h = 0; h < n; h++) {
            x.make(PAIR, 0);
            if (h > 0) {
                x.link(h - 1, 0, h);
            }
        }
        x.root(0, 0);
        return x;
    }

    /**
     * What calls tell of a small object, as one number; finding() is 0 behind it. It is kept short, as an object has
     * 512 calls.
     */
    static int stateOf(SweepKeeper x) {
        int d = 31 * x.digest() + x.copied();
        d = 31 * d + x.found();
        for (int what = 0; what < 16; what++) {
            d = 31 * d + x.about(what);
        }
        for (int b = 0; b < 14; b++) {
            d = 31 * d + x.trace(b);
        }
        for (int r = 0; r < 8; r++) {
            d = 31 * d + x.register(r);
        }
        int handles = Math.min(x.about(2), 10);
        for (int h = 0; h < handles; h++) {
            d = 31 * d + x.marked(h);
            d = 31 * d + x.moved(h);
            d = 31 * d + x.place(h);
        }
        d = 31 * d + x.rows();
        d = 31 * d + x.row(x.rows() - 1);
        d = 31 * d + x.check();
        for (int place = 0; place < 32; place++) {
            d = 31 * d + x.shelf(place / 8, place % 8);
        }
        return d;
    }

    /** A refused call answers so, and changes nothing, not even what finding() tells. */
    static void refused(Supplier<SweepKeeper> object, int want, ToIntFunction<SweepKeeper> call) {
        SweepKeeper x = object.get();
        int state = stateOf(x);
        x.shelf(0, 8);
        is(want, call.applyAsInt(x));
        is(BEYOND, x.finding());
        is(state, stateOf(x));
    }

    static void refused(int want, ToIntFunction<SweepKeeper> call) {
        refused(Boundary::six, want, call);
    }

    /** A call with a finding answers -10 less it, and changes nothing but what finding() tells. */
    static void finds(Supplier<SweepKeeper> object, int finding, ToIntFunction<SweepKeeper> call) {
        SweepKeeper x = object.get();
        int state = stateOf(x);
        is(telling(finding), call.applyAsInt(x));
        is(finding, x.finding());
        is(state, stateOf(x));
    }

    static void finds(int finding, ToIntFunction<SweepKeeper> call) {
        finds(Boundary::six, finding, call);
    }

    /** What a handle may be, where a cell must be; the call's name begins with the number of its promise. */
    static void handles(String call, ToIntBiFunction<SweepKeeper, Integer> f) {
        test(call + ": the HANDLE NONE is UNKNOWN", () -> refused(UNKNOWN, x -> f.applyAsInt(x, NONE)));
        test(call + ": the HANDLE that is made next is UNKNOWN", () -> refused(UNKNOWN, x -> f.applyAsInt(x, NEXT)));
        test(call + ": HANDLE 0 is UNKNOWN while there is no CELL",
            () -> refused(SweepKeeper::new, UNKNOWN, x -> f.applyAsInt(x, 0)));
        farHandles(call, f);
        test(call + ": a HANDLE that was GIVEN BACK is GONE", () -> finds(GONE, x -> f.applyAsInt(x, BACK)));
    }

    /** What a handle may be where "(NONE)" stands; NONE itself is left to the call's own tests. */
    static void targets(String call, ToIntBiFunction<SweepKeeper, Integer> f) {
        test(call + ": t that is made next is UNKNOWN", () -> refused(UNKNOWN, x -> f.applyAsInt(x, NEXT)));
        farHandles(call + " (t)", f);
        test(call + ": t that was GIVEN BACK is GONE", () -> finds(GONE, x -> f.applyAsInt(x, BACK)));
    }

    private static void farHandles(String call, ToIntBiFunction<SweepKeeper, Integer> f) {
        int[] far = {-2, MIN, 499, 500, MAX};
        for (int h : far) {
            test(call + ": the HANDLE " + h + " is UNKNOWN", () -> refused(UNKNOWN, x -> f.applyAsInt(x, h)));
        }
    }

    /** Places that there are not, at both ends of a cell's own: below 0, at count, and far off. */
    static void beyond(String call, int count, ToIntBiFunction<SweepKeeper, Integer> f) {
        int[] places = {-1, MIN, count, MAX};
        for (int i : places) {
            test(call + ": place " + i + " is BEYOND", () -> finds(BEYOND, x -> f.applyAsInt(x, i)));
        }
    }
}
