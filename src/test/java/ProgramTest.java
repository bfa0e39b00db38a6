/** Promises 37 to 41: acts, runs and registers. */
public final class ProgramTest {
    private static final int NONE = SweepKeeper.NONE, UNKNOWN = SweepKeeper.UNKNOWN, OUTSIDE = SweepKeeper.OUTSIDE;
    private static final int NOT = SweepKeeper.NOT;
    private static final int MIN = Integer.MIN_VALUE, MAX = Integer.MAX_VALUE;
    private static final int MAKE = 0, LINK = 1, GET = 2, ROOT = 3, TAKE = 4, LOOK = 5, WEAKEN = 6, COPY = 7, DROP = 8;
    private static final int STEP = 9, FAIL = 10, PUT = 11, SHELVE = 12;
    private static final int GONE = 1, BEYOND = 2, KIND = 3, SIZE = 4, STORE = 5, ROOM = 6;

    public static void main(String[] args) {
        actNames();
        actNumbers();
        actNot();
        clear();
        run();
        runGoesRound();
        eachAct();
        findingsOfActs();
        noneInRegisters();
        goneInRegisters();
        marksOfActs();
        found();
        register();
        Due.end();
    }

    /** Does one act alone: its finding. */
    private static int once(SweepKeeper x, int what, int a, int b, int c, int d) {
        x.clear();
        x.act(what, a, b, c, d);
        x.run(1);
        return x.found();
    }

    /** R0 PAIR 0, R1 ROW 1 of 3, R2 BYTES 2 of 5, R3 WEAK 3, R4 WATCHED 4, R5 TABLE 5 of 2; R6, R7 NONE. */
    private static SweepKeeper sixRegisters() {
        SweepKeeper x = new SweepKeeper();
        int[] counts = {0, 3, 5, 0, 0, 2};
        for (int r = 0; r < 6; r++) {
            Due.is("program: made", 0, once(x, MAKE, r, r, counts[r], 0));
        }
        return x;
    }

    private static void names(int what, int ofA, int ofB, int ofC) {
        SweepKeeper x = new SweepKeeper();
        int[] names = {ofA, ofB, ofC};
        for (int k = 0; k < 3; k++) {
            int[] low = {0, 0, 0};
            int[] high = {0, 0, 0};
            int[] last = {0, 0, 0};
            low[k] = names[k] > 0 ? -1 : 0;
            high[k] = names[k];
            last[k] = names[k] > 0 ? names[k] - 1 : 0;
            Due.is("act " + what + ": the last", 2 * k + 1, x.act(what, last[0], last[1], last[2], MIN));
            if (names[k] > 0) {
                Due.is("act " + what + ": -1", UNKNOWN, x.act(what, low[0], low[1], low[2], 0));
                Due.is("act " + what + ": too high", UNKNOWN, x.act(what, high[0], high[1], high[2], 0));
            }
            x.act(DROP, 0, 0, 0, 0);
        }
    }

    private static void actNames() {
        names(MAKE, 8, 0, 0);
        names(LINK, 8, 0, 8);
        names(GET, 8, 0, 8);
        names(ROOT, 24, 8, 0);
        names(TAKE, 24, 8, 0);
        names(LOOK, 8, 8, 0);
        names(WEAKEN, 8, 8, 0);
        names(COPY, 8, 0, 8);
        names(DROP, 8, 0, 0);
        names(STEP, 0, 0, 0);
        names(FAIL, 0, 0, 0);
        names(PUT, 8, 0, 0);
        names(SHELVE, 4, 0, 8);
    }

    private static void actNumbers() {
        SweepKeeper x = new SweepKeeper();
        Due.is("act: what 13", OUTSIDE, x.act(13, -1, -1, -1, -1));
        Due.is("act: what -1", OUTSIDE, x.act(-1, 0, 0, 0, 0));
        Due.is("act: kind 6", OUTSIDE, x.act(MAKE, 0, 6, 0, 0));
        Due.is("act: kind -1", OUTSIDE, x.act(MAKE, 0, -1, 0, 0));
        Due.is("act: n above 300", OUTSIDE, x.act(MAKE, 0, 5, 301, 0));
        Due.is("act: register ahead of kind", UNKNOWN, x.act(MAKE, 8, 6, 301, 0));
        Due.is("act: step 1001", OUTSIDE, x.act(STEP, 1001, 0, 0, 0));
        Due.is("act: step -1", OUTSIDE, x.act(STEP, -1, 0, 0, 0));
        Due.is("act: none yet", 0, x.about(12));
        Due.is("act: n of a pair", 1, x.act(MAKE, 0, 0, 301, 0));
        Due.is("act: n below 0", 2, x.act(MAKE, 0, 1, -1, 0));
        Due.is("act: step 1000", 3, x.act(STEP, 1000, -1, MAX, MIN));
        Due.is("act: others are not looked at", 4, x.act(FAIL, MIN, MIN, MIN, MIN));
        Due.is("act: no such link", 5, x.act(LINK, 0, MIN, 0, 9));
        Due.is("act: no such place", 6, x.act(SHELVE, 0, 99, 0, 0));
        Due.is("act: four", 6, x.about(12));
        Due.is("act: finding", 0, x.finding());
    }

    private static void actNot() {
        SweepKeeper x = new SweepKeeper();
        for (int k = 1; k <= 40; k++) {
            Due.is("act: " + k, k, x.act(DROP, 0, 0, 0, 0));
        }
        Due.is("act: the 41st", NOT, x.act(DROP, 0, 0, 0, 0));
        Due.is("act: unknown ahead", UNKNOWN, x.act(DROP, 8, 0, 0, 0));
        Due.is("act: outside ahead", OUTSIDE, x.act(STEP, 1001, 0, 0, 0));
        Due.is("act: outside ahead", OUTSIDE, x.act(99, 0, 0, 0, 0));
        Due.is("act: all of them", 200, x.run(200));
        Due.is("act: round", 0, x.about(13));
    }

    private static void clear() {
        SweepKeeper x = new SweepKeeper();
        Due.is("clear: none", 0, x.clear());
        x.act(MAKE, 7, 0, 0, 0);
        x.act(FAIL, 1, 0, 0, 0);
        x.act(DROP, 0, 0, 0, 0);
        x.run(2);
        Due.is("clear: next", 2, x.about(13));
        Due.is("clear: three", 3, x.clear());
        Due.is("clear: the first is next", 0, x.about(13));
        Due.is("clear: none left", 0, x.about(12));
        Due.is("clear: done stays", 2, x.about(14));
        Due.is("clear: findings stay", 1, x.about(15));
        Due.is("clear: registers stay", 0, x.register(7));
        Due.is("clear: found stays", 7, x.found());
        Due.is("clear: no run", NOT, x.run(1));
    }

    private static void run() {
        SweepKeeper x = new SweepKeeper();
        Due.is("run: no acts", NOT, x.run(0));
        Due.is("run: outside ahead", OUTSIDE, x.run(201));
        Due.is("run: -1", OUTSIDE, x.run(-1));
        x.act(MAKE, 0, 0, 0, 0);
        Due.is("run: 0", 0, x.run(0));
        Due.is("run: made none", 0, x.about(2));
        Due.is("run: 200", 200, x.run(200));
        Due.is("run: made", 200, x.about(2));
        Due.is("run: 201", OUTSIDE, x.run(201));
        Due.is("run: most", OUTSIDE, x.run(MAX));
        Due.is("run: done", 200, x.about(14));
    }

    private static void runGoesRound() {
        SweepKeeper x = new SweepKeeper();
        x.act(MAKE, 0, 0, 0, 0);
        x.act(FAIL, 1, 0, 0, 0);
        x.act(MAKE, 1, 3, 0, 0);
        Due.is("round: ends behind a finding", 2, x.run(10));
        Due.is("round: next", 2, x.about(13));
        Due.is("round: behind the last the first", 3, x.run(10));
        Due.is("round: R0", 2, x.register(0));
        Due.is("round: R1", 1, x.register(1));
        Due.is("round: done", 5, x.about(14));
        Due.is("round: findings", 2, x.about(15));
        Due.is("round: one", 1, x.run(1));
        Due.is("round: at the end", 0, x.about(13));
        x.act(DROP, 1, 0, 0, 0);
        Due.is("round: an act more is not next", 0, x.about(13));
    }

    private static void eachAct() {
        SweepKeeper x = sixRegisters();
        for (int r = 0; r < 6; r++) {
            Due.is("acts: MAKE " + r, r, x.kind(x.register(r)));
        }
        Due.is("acts: MAKE n", 3, x.links(1));
        Due.is("acts: LINK", 0, once(x, LINK, 0, 1, 1, 0));
        Due.is("acts: linked", 1, x.get(0, 1));
        Due.is("acts: GET", 0, once(x, GET, 0, 1, 6, 0));
        Due.is("acts: got", 1, x.register(6));
        Due.is("acts: ROOT", 0, once(x, ROOT, 23, 4, 0, 0));
        Due.is("acts: root", 4, x.rootOf(23));
        Due.is("acts: TAKE", 0, once(x, TAKE, 23, 7, 0, 0));
        Due.is("acts: taken", 4, x.register(7));
        Due.is("acts: WEAKEN", 0, once(x, WEAKEN, 3, 2, 0, 0));
        Due.is("acts: weakened", 2, x.look(3));
        Due.is("acts: LOOK", 0, once(x, LOOK, 3, 7, 0, 0));
        Due.is("acts: looked", 2, x.register(7));
        x.link(1, 1, 4);
        x.link(1, 2, 3);
        Due.is("acts: COPY", 0, once(x, COPY, 1, 1, 5, 2));
        Due.is("acts: copied", 2, x.copied());
        Due.is("acts: copied to 0", 4, x.get(5, 0));
        Due.is("acts: copied to 1", 3, x.get(5, 1));
        Due.is("acts: DROP", 0, once(x, DROP, 7, 0, 0, 0));
        Due.is("acts: dropped", NONE, x.register(7));
        Due.is("acts: PUT", 0, once(x, PUT, 2, 4, 511, 0));
        Due.is("acts: put", 255, x.byteAt(2, 4));
        Due.is("acts: SHELVE", 0, once(x, SHELVE, 1, 7, 5, 0));
        Due.is("acts: shelved", 5, x.shelf(1, 7));
        Due.is("acts: STEP", 0, once(x, STEP, 1, 0, 0, 0));
        Due.is("acts: stepped", 1, x.about(4));
        Due.is("acts: FAIL", 7, once(x, FAIL, 1, 0, 0, 0));
        Due.is("acts: FAIL of nothing", 8, once(x, FAIL, 0, 0, 0, 0));
        Due.is("acts: FAIL below 0", 7, once(x, FAIL, -1, 0, 0, 0));
    }

    private static void findingsOfActs() {
        SweepKeeper x = sixRegisters();
        x.get(0, 9);
        Due.is("acts: SIZE", SIZE, once(x, MAKE, 0, 1, -1, 0));
        Due.is("acts: ROOM", ROOM, once(x, MAKE, 0, 1, 300, 0));
        Due.is("acts: register stays", 0, x.register(0));
        Due.is("acts: LINK KIND", KIND, once(x, LINK, 2, 0, 0, 0));
        Due.is("acts: LINK BEYOND", BEYOND, once(x, LINK, 0, 2, 0, 0));
        Due.is("acts: GET BEYOND", BEYOND, once(x, GET, 0, -1, 1, 0));
        Due.is("acts: GET KIND", KIND, once(x, GET, 2, 0, 1, 0));
        Due.is("acts: register stays", 1, x.register(1));
        Due.is("acts: LOOK KIND", KIND, once(x, LOOK, 0, 1, 0, 0));
        Due.is("acts: register stays", 1, x.register(1));
        Due.is("acts: WEAKEN KIND", KIND, once(x, WEAKEN, 0, 1, 0, 0));
        Due.is("acts: COPY KIND", KIND, once(x, COPY, 1, 0, 0, 1));
        Due.is("acts: COPY SIZE", SIZE, once(x, COPY, 1, 0, 5, -1));
        Due.is("acts: COPY BEYOND", BEYOND, once(x, COPY, 1, 0, 5, 3));
        Due.is("acts: COPY came", 2, x.copied());
        Due.is("acts: PUT KIND", KIND, once(x, PUT, 0, 0, 0, 0));
        Due.is("acts: PUT BEYOND", BEYOND, once(x, PUT, 2, 5, 0, 0));
        Due.is("acts: SHELVE BEYOND", BEYOND, once(x, SHELVE, 0, 8, 1, 0));
        Due.is("acts: SHELVE STORE", STORE, once(x, SHELVE, 0, 0, 1, 0));
        Due.is("acts: runs name no finding", 2, x.finding());
    }

    private static void noneInRegisters() {
        SweepKeeper x = sixRegisters();
        Due.is("NONE: LINK", GONE, once(x, LINK, 6, 0, 0, 0));
        Due.is("NONE: GET", GONE, once(x, GET, 6, 0, 0, 0));
        Due.is("NONE: LOOK", GONE, once(x, LOOK, 6, 0, 0, 0));
        Due.is("NONE: WEAKEN", GONE, once(x, WEAKEN, 6, 0, 0, 0));
        Due.is("NONE: COPY", GONE, once(x, COPY, 6, 0, 1, 0));
        Due.is("NONE: COPY into", GONE, once(x, COPY, 0, 0, 6, 0));
        Due.is("NONE: PUT", GONE, once(x, PUT, 6, 0, 0, 0));
        x.link(0, 0, 1);
        x.weaken(3, 1);
        x.root(0, 1);
        x.shelve(0, 0, 0);
        Due.is("NONE: LINK to it", 0, once(x, LINK, 0, 0, 6, 0));
        Due.is("NONE: linked", NONE, x.get(0, 0));
        Due.is("NONE: WEAKEN to it", 0, once(x, WEAKEN, 3, 6, 0, 0));
        Due.is("NONE: weakened", NONE, x.look(3));
        Due.is("NONE: ROOT to it", 0, once(x, ROOT, 0, 6, 0, 0));
        Due.is("NONE: root", NONE, x.rootOf(0));
        Due.is("NONE: SHELVE", 0, once(x, SHELVE, 0, 0, 6, 0));
        Due.is("NONE: shelved", NONE, x.shelf(0, 0));
        Due.is("NONE: TAKE", 0, once(x, TAKE, 0, 0, 0, 0));
        Due.is("NONE: GET one", 0, once(x, GET, 1, 0, 2, 0));
        Due.is("NONE: LOOK at one", 0, once(x, LOOK, 3, 4, 0, 0));
        Due.is("NONE: taken", NONE, x.register(0));
        Due.is("NONE: got", NONE, x.register(2));
        Due.is("NONE: looked", NONE, x.register(4));
    }

    private static void goneInRegisters() {
        SweepKeeper x = sixRegisters();
        x.root(0, 1);
        x.root(1, 3);
        Due.is("gone: registers keep nothing", 4, x.cycle());
        Due.is("gone: they have it yet", 0, x.register(0));
        Due.is("gone: LINK", GONE, once(x, LINK, 0, 0, 1, 0));
        Due.is("gone: LINK to it ahead of BEYOND", GONE, once(x, LINK, 1, 9, 0, 0));
        Due.is("gone: ROOT", GONE, once(x, ROOT, 0, 0, 0, 0));
        Due.is("gone: WEAKEN", GONE, once(x, WEAKEN, 3, 0, 0, 0));
        Due.is("gone: SHELVE", GONE, once(x, SHELVE, 0, 9, 0, 0));
        Due.is("gone: COPY", GONE, once(x, COPY, 1, 0, 5, 1));
        Due.is("gone: PUT", GONE, once(x, PUT, 2, 0, 1, 0));
    }

    private static void marksOfActs() {
        SweepKeeper x = sixRegisters();
        x.weaken(3, 2);
        x.link(1, 2, 4);
        x.root(0, 1);
        x.step(0);
        once(x, LOOK, 3, 7, 0, 0);
        Due.is("marks: LOOK", 2, x.marked(2));
        once(x, LINK, 1, 2, 0, 0);
        Due.is("marks: overwritten", 3, x.marked(4));
        Due.is("marks: set", 4, x.marked(0));
        once(x, ROOT, 3, 3, 0, 0);
        Due.is("marks: ROOT", 5, x.marked(3));
        once(x, MAKE, 6, 0, 0, 0);
        Due.is("marks: MADE", 6, x.marked(6));
        once(x, TAKE, 0, 7, 0, 0);
        once(x, GET, 1, 0, 7, 0);
        once(x, WEAKEN, 3, 5, 0, 0);
        once(x, SHELVE, 1, 0, 5, 0);
        Due.is("marks: none of these", 0, x.marked(5));
        x.link(6, 0, 5);
        Due.is("marks: seven", 7, x.about(10));
        once(x, STEP, 1000, 0, 0, 0);
        Due.is("marks: ended", 0, x.phase());
        Due.is("marks: right", NONE, x.check());
    }

    private static void found() {
        SweepKeeper x = new SweepKeeper();
        Due.is("found: 0 ahead of a run", 0, x.found());
        x.act(FAIL, 0, 0, 0, 0);
        x.act(DROP, 0, 0, 0, 0);
        x.run(2);
        Due.is("found: 8", 8, x.found());
        x.run(0);
        Due.is("found: a run that began none", 8, x.found());
        x.run(201);
        Due.is("found: refused", 8, x.found());
        x.run(1);
        Due.is("found: none", 0, x.found());
        x.image();
        x.run(1);
        x.load();
        Due.is("found: load() leaves it", 8, x.found());
    }

    private static void register() {
        SweepKeeper x = new SweepKeeper();
        x.act(MAKE, 7, 0, 0, 0);
        x.run(1);
        Due.is("register: 7", 0, x.register(7));
        Due.is("register: 6", NONE, x.register(6));
        Due.is("register: 8", UNKNOWN, x.register(8));
        Due.is("register: -1", UNKNOWN, x.register(-1));
    }
}
