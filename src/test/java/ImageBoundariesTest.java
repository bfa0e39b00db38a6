import java.util.function.ToIntFunction;

/** Promises 42 to 46: the image, what undoStep() has, finding() and trace(). */
public final class ImageBoundariesTest extends Boundary {
    private static final int STEP = 9, FAIL_ACT = 10;

    public static void main(String[] args) {
        image();
        load();
        loadBringsBack();
        undoStep();
        undoStepIsKeptOnce();
        undoStepOfRuns();
        undoStepBringsBack();
        findingOfEachCall();
        findingStays();
        trace();
        traceOfEnds();
        end(42, 46);
    }

    // "THE STATE is kept as THE IMAGE: how many CELLS it has."
    private static void image() {
        test("42 image: of nothing has 0 CELLS, and can be loaded", () -> {
            SweepKeeper x = new SweepKeeper();
            is(0, x.image());
            x.make(PAIR, 0);
            is(1, x.load());
            is(0, x.about(2));
            is(UNKNOWN, x.kind(0));
        });
        test("42 image: counts those that are there alone", () -> is(6, six().image()));
        test("42 image: of 500 CELLS", () -> {
            SweepKeeper x = fiveHundred();
            is(500, x.image());
            x.cycle();
            is(0, x.about(3));
            x.load();
            is(500, x.about(3));
            is(PAIR, x.kind(499));
        });
        test("42 image: of a full heap of 4000 ints", () -> {
            SweepKeeper x = sized(4000);
            for (int h = 0; h < 13; h++) {
                x.make(ROW, 300);
            }
            x.make(TABLE, 36);
            x.key(13, 35, 7);
            is(14, x.image());
            x.cycle();
            is(0, x.word(3999));
            x.load();
            is(7, x.word(3999));
            is(0, x.about(1));
        });
        test("42 image: the latest alone is kept", () -> {
            SweepKeeper x = new SweepKeeper();
            x.image();
            x.make(PAIR, 0);
            is(1, x.image());
            x.make(PAIR, 0);
            x.load();
            is(1, x.about(3));
        });
        test("42 image: changes nothing, and leaves finding() and what undoStep() has", () -> {
            SweepKeeper x = six();
            x.step(1);
            int state = stateOf(x);
            x.shelf(0, 8);
            is(6, x.image());
            is(BEYOND, x.finding());
            is(state, stateOf(x));
            is(1, x.undoStep());
        });
    }

    // "THE STATE becomes THE IMAGE (which stays); what undoStep() has is gone: 1. NOT: there is none."
    private static void load() {
        test("43 load: NOT without an IMAGE", () -> refused(NOT, x -> x.load()));
        test("43 load: NOT leaves what undoStep() has", () -> {
            SweepKeeper x = six();
            x.step(0);
            is(NOT, x.load());
            is(1, x.undoStep());
        });
        test("43 load: THE IMAGE stays, however often", () -> {
            SweepKeeper x = six();
            x.image();
            int digest = x.digest();
            for (int k = 0; k < 3; k++) {
                x.root(PAIR, NONE);
                is(1, x.cycle());
                x.make(TABLE, 9);
                is(1, x.load());
                is(digest, x.digest());
                is(PAIR, x.kind(PAIR));
            }
        });
        test("43 load: what undoStep() has is gone, though it was kept ahead of image()", () -> {
            SweepKeeper x = six();
            x.step(0);
            x.image();
            is(1, x.load());
            is(NOT, x.undoStep());
        });
        test("43 load: what undoStep() has is gone, though it was kept behind image()", () -> {
            SweepKeeper x = six();
            x.image();
            x.step(0);
            is(1, x.load());
            is(NOT, x.undoStep());
            x.step(0);
            is(1, x.undoStep());
        });
        test("43 load: NOT behind size()", () -> {
            SweepKeeper x = six();
            x.image();
            x.size(256);
            is(NOT, x.load());
        });
        test("43 load: undoStep() leaves THE IMAGE", () -> {
            SweepKeeper x = six();
            x.image();
            x.step(1000);
            x.undoStep();
            is(1, x.load());
        });
    }

    // "THE STATE: all (THE PAPER with what plain() goes back to) but what trace(), finding(), copied(), found() tell,
    // THE IMAGE and what undoStep() has."
    private static void loadBringsBack() {
        test("43 load: HANDLES that were made since are UNKNOWN, and come again", () -> {
            SweepKeeper x = six();
            x.image();
            is(NEXT, x.make(PAIR, 0));
            x.load();
            is(UNKNOWN, x.kind(NEXT));
            is(NEXT, x.make(BYTES, 0));
        });
        test("43 load: a CELL that was GIVEN BACK since is there", () -> {
            SweepKeeper x = six();
            x.put(BYTES, 4, 9);
            x.shelve(2, 7, BYTES);
            x.image();
            x.root(BYTES, NONE);
            x.cycle();
            is(telling(GONE), x.kind(BYTES));
            x.load();
            is(9, x.byteAt(BYTES, 4));
            is(BYTES, x.shelf(2, 7));
            is(BYTES, x.rootOf(BYTES));
        });
        test("43 load: ints that were free then are 0", () -> {
            SweepKeeper x = six();
            x.image();
            x.make(ROW, 229);
            x.load();
            is(231, x.about(1));
            for (int k = 25; k < 256; k++) {
                is(0, x.word(k));
            }
        });
        test("43 load: the CYCLE under way goes on where it was", () -> {
            SweepKeeper x = chain(3);
            x.step(3);
            x.image();
            x.cycle();
            is(0, x.phase());
            x.load();
            is(1, x.phase());
            is(3, x.about(10));
            is(2, x.about(11));
            is(3, x.step(1000));
            is(NONE, x.check());
        });
        test("43 load: what was MARKED then has its REASONS again, though other CYCLES came since", () -> {
            SweepKeeper x = chain(3);
            x.make(BYTES, 0);
            x.make(BYTES, 0);
            x.step(0);
            x.root(23, 4);
            x.link(2, 1, 3);
            x.image();
            for (int r = 0; r < 5; r++) {
                x.root(r, 4 - r);
            }
            x.root(23, NONE);
            x.cycle();
            x.cycle();
            x.load();
            is(6, x.step(1000));
            // handle, reason, its two numbers, number, how many links
            int[][] due = {{0, 0, 0, NONE, 1, 2}, {1, 1, 0, 0, 4, 2}, {2, 1, 1, 0, 5, 2}, {3, 3, 2, 1, 3, 0},
                {4, 3, NONE, 23, 2, 0}};
            int at = 25;
            for (int[] kept : due) {
                for (int k = 0; k < 6; k++) {
                    is(kept[k], x.row(at + k));
                }
                at += 6 + kept[5];
            }
        });
        test("43 load: no CYCLE is under way, though one is now", () -> {
            SweepKeeper x = chain(3);
            x.image();
            x.step(3);
            x.load();
            is(0, x.phase());
            is(0, x.marked(0));
            is(0, x.about(10));
        });
        test("43 load: an empty PAPER", () -> {
            SweepKeeper x = chain(3);
            x.image();
            x.cycle();
            x.load();
            is(0, x.rows());
            is(NOT, x.check());
        });
        test("43 load: a forged PAPER, with what plain() goes back to", () -> {
            SweepKeeper x = six();
            x.forge(72, 5);
            x.image();
            x.plain();
            x.cycle();
            x.load();
            is(5, x.row(72));
            is(1, x.plain());
            is(NONE, x.check());
        });
        test("43 load: THE PROGRAM, REGISTERS and counts of RUNS", () -> {
            SweepKeeper x = new SweepKeeper();
            x.act(0, 7, PAIR, 0, 0);
            x.act(FAIL_ACT, 1, 0, 0, 0);
            x.run(1);
            x.image();
            x.run(9);
            x.clear();
            x.act(8, 7, 0, 0, 0);
            x.act(8, 7, 0, 0, 0);
            x.run(1);
            x.load();
            is(0, x.register(7));
            is(2, x.about(12));
            is(1, x.about(13));
            is(1, x.about(14));
            is(0, x.about(15));
            is(1, x.run(9));
            is(FAIL, x.found());
            is(2, x.run(9));
            is(1, x.register(7));
        });
        test("43 load: TELLINGS and counts of CYCLES", () -> {
            SweepKeeper x = six();
            x.image();
            x.weaken(WATCHED, x.make(PAIR, 0));
            x.cycle();
            is(1, x.about(9));
            x.load();
            is(0, x.about(9));
            is(NONE, x.told(0, 0));
            is(1, x.about(4));
            is(1, x.about(8));
        });
        test("43 load: TELLINGS as they were, though others came since", () -> {
            SweepKeeper x = six();
            x.weaken(WATCHED, x.make(PAIR, 0));
            x.number(WATCHED, 5);
            x.step(1000);
            x.image();
            x.undoStep();
            x.number(WATCHED, 6);
            x.cycle();
            is(6, x.told(0, 1));
            x.load();
            is(5, x.told(0, 1));
        });
        test("43 load: what the latest CYCLE kept, gave back and let SLIDE", () -> {
            SweepKeeper x = six();
            x.root(PAIR, NONE);
            x.cycle();
            x.image();
            for (int r = ROW; r <= TABLE; r++) {
                x.root(r, NONE);
            }
            x.cycle();
            x.cycle();
            x.load();
            is(5, x.about(5));
            is(1, x.about(6));
            is(5, x.about(7));
            is(2, x.about(8));
        });
        test("43 load: what CELLS moved by", () -> {
            SweepKeeper x = chain(2);
            x.root(0, 1);
            x.cycle();
            x.image();
            x.cycle();
            is(0, x.moved(1));
            x.load();
            is(3, x.moved(1));
        });
        test("43 load: leaves trace(), finding(), copied(), found()", () -> {
            SweepKeeper x = six();
            x.image();
            x.measure(PAIR);
            x.copy(ROW, 0, TABLE, 0, 2);
            x.act(FAIL_ACT, 0, 0, 0, 0);
            x.run(1);
            x.shelf(0, 8);
            x.load();
            is(1, x.trace(0));
            is(BEYOND, x.finding());
            is(2, x.copied());
            is(FAIL_OF_NOTHING, x.found());
        });
    }

    // "THE STATE becomes what it was ahead of the latest step() or STEP [..], once: 1. NOT: it is not kept."
    private static void undoStep() {
        test("44 undoStep: NOT ahead of a step()", () -> refused(NOT, x -> x.undoStep()));
        test("44 undoStep: NOT behind cycle() alone", () -> {
            SweepKeeper x = chain(1);
            x.cycle();
            is(NOT, x.undoStep());
        });
        test("44 undoStep: once, then NOT", () -> {
            SweepKeeper x = chain(2);
            x.step(0);
            x.step(1);
            is(1, x.undoStep());
            is(NOT, x.undoStep());
            is(1, x.phase());
            is(1, x.about(10));
        });
        test("44 undoStep: NOT changes nothing", () -> {
            SweepKeeper x = chain(2);
            x.step(1);
            x.undoStep();
            int state = stateOf(x);
            is(NOT, x.undoStep());
            is(state, stateOf(x));
        });
        int[] refusals = {-1, 1001, MIN, MAX};
        for (int n : refusals) {
            test("44 undoStep: a step(" + n + ") that is refused keeps nothing", () -> {
                SweepKeeper x = chain(2);
                x.step(n);
                is(NOT, x.undoStep());
            });
            test("44 undoStep: a step(" + n + ") that is refused leaves what is kept", () -> {
                SweepKeeper x = chain(2);
                x.step(0);
                x.step(n);
                is(1, x.undoStep());
                is(0, x.phase());
            });
        }
        test("44 undoStep: of a step(0) that changed nothing", () -> {
            SweepKeeper x = chain(2);
            x.step(1);
            x.step(0);
            int state = stateOf(x);
            is(1, x.undoStep());
            is(state, stateOf(x));
        });
        test("44 undoStep: of a step() of nothing, which ENDED", () -> {
            SweepKeeper x = new SweepKeeper();
            x.step(0);
            is(27, x.rows());
            is(1, x.undoStep());
            is(0, x.rows());
            is(0, x.about(4));
        });
        test("44 undoStep: NOT behind load() and behind size()", () -> {
            SweepKeeper x = chain(2);
            x.image();
            x.step(0);
            x.load();
            is(NOT, x.undoStep());
            x.step(0);
            x.size(256);
            is(NOT, x.undoStep());
        });
    }

    // "are kept once each"; "(by the latest of both)"
    private static void undoStepIsKeptOnce() {
        test("44 undoStep: the latest of two step() alone", () -> {
            SweepKeeper x = chain(3);
            x.step(1);
            x.step(2);
            x.undoStep();
            is(2, x.about(10));
            is(NOT, x.undoStep());
        });
        test("44 undoStep: STEP behind step() is the latest", () -> {
            SweepKeeper x = chain(3);
            x.act(STEP, 1, 0, 0, 0);
            x.step(1);
            x.run(1);
            x.undoStep();
            is(1, x.phase());
            is(0, x.about(14));
            is(NOT, x.undoStep());
        });
        test("44 undoStep: step() behind STEP is the latest", () -> {
            SweepKeeper x = chain(3);
            x.act(STEP, 1, 0, 0, 0);
            x.run(1);
            x.step(1);
            x.undoStep();
            is(1, x.about(14));
            is(2, x.about(10));
        });
        test("44 undoStep: a refused step() behind STEP is not", () -> {
            SweepKeeper x = chain(3);
            x.act(STEP, 1, 0, 0, 0);
            x.run(1);
            x.step(1001);
            x.undoStep();
            is(0, x.about(14));
            is(0, x.phase());
        });
        test("44 undoStep: a RUN without STEP leaves what is kept, and is undone", () -> {
            SweepKeeper x = chain(3);
            x.act(0, 0, PAIR, 0, 0);
            x.step(1);
            x.run(2);
            is(1, x.undoStep());
            is(0, x.about(14));
            is(NONE, x.register(0));
            is(3, x.about(2));
        });
        test("44 undoStep: a step() behind it is kept again", () -> {
            SweepKeeper x = chain(3);
            x.step(1);
            x.undoStep();
            x.step(1);
            is(1, x.undoStep());
            is(NOT, x.undoStep());
        });
    }

    // "(also what a RUN did behind that is undone: an ACT STEP is next again, it and those behind it are not counted)"
    private static void undoStepOfRuns() {
        test("44 undoStep: STEP is next again, it and those behind it are not counted", () -> {
            SweepKeeper x = chain(3);
            x.act(0, 0, PAIR, 0, 0);
            x.act(STEP, 1, 0, 0, 0);
            x.act(0, 1, PAIR, 0, 0);
            x.act(FAIL_ACT, 1, 0, 0, 0);
            is(4, x.run(200));
            is(1, x.undoStep());
            is(1, x.about(13));
            is(1, x.about(14));
            is(0, x.about(15));
            is(3, x.register(0));
            is(NONE, x.register(1));
            is(4, x.about(12));
        });
        test("44 undoStep: STEP as the last ACT is next again, though the first was next", () -> {
            SweepKeeper x = chain(3);
            x.act(8, 0, 0, 0, 0);
            x.act(STEP, 1, 0, 0, 0);
            x.run(2);
            is(0, x.about(13));
            x.undoStep();
            is(1, x.about(13));
            is(1, x.about(14));
        });
        test("44 undoStep: of several STEPS of a RUN the latest", () -> {
            SweepKeeper x = chain(3);
            x.act(STEP, 1, 0, 0, 0);
            is(3, x.run(3));
            x.undoStep();
            is(2, x.about(14));
            is(0, x.about(13));
            is(2, x.about(10));
        });
        test("44 undoStep: STEP of 200 ACTS that went round", () -> {
            SweepKeeper x = chain(3);
            x.act(STEP, 0, 0, 0, 0);
            x.act(8, 0, 0, 0, 0);
            x.act(8, 1, 0, 0, 0);
            is(200, x.run(200));
            x.undoStep();
            is(0, x.about(13));
            is(198, x.about(14));
        });
        test("44 undoStep: FINDINGS of a RUN behind a step() are not counted, found() stays", () -> {
            SweepKeeper x = chain(3);
            x.act(FAIL_ACT, 1, 0, 0, 0);
            x.step(1);
            x.run(1);
            is(1, x.about(15));
            x.undoStep();
            is(0, x.about(15));
            is(FAIL, x.found());
        });
    }

    private static void undoStepBringsBack() {
        test("44 undoStep: an END with all that it did", () -> {
            SweepKeeper x = six();
            x.weaken(WATCHED, x.make(PAIR, 0));
            x.number(WATCHED, 5);
            int digest = x.digest();
            x.step(1000);
            is(5, x.told(0, 1));
            is(1, x.undoStep());
            is(digest, x.digest());
            is(NONE, x.told(0, 1));
            is(0, x.about(9));
            is(1, x.about(4));
            is(PAIR, x.kind(NEXT));
            is(NEXT, x.look(WATCHED));
            is(73, x.rows());
        });
        test("44 undoStep: all that calls did behind it", () -> {
            SweepKeeper x = six();
            x.step(1);
            x.make(PAIR, 0);
            x.root(23, NEXT);
            x.put(BYTES, 0, 1);
            x.shelve(0, 0, PAIR);
            x.act(8, 0, 0, 0, 0);
            x.forge(0, 99);
            x.cycle();
            x.undoStep();
            is(UNKNOWN, x.kind(NEXT));
            is(NONE, x.rootOf(23));
            is(0, x.byteAt(BYTES, 0));
            is(NONE, x.shelf(0, 0));
            is(0, x.about(12));
            is(0, x.row(0));
            is(0, x.plain());
            is(0, x.phase());
        });
        test("44 undoStep: a PROGRAM that was cleared behind it", () -> {
            SweepKeeper x = six();
            x.act(0, 3, PAIR, 0, 0);
            x.step(1);
            x.clear();
            x.undoStep();
            is(1, x.about(12));
            x.run(1);
            is(NEXT, x.register(3));
        });
        test("44 undoStep: a forged PAPER, with what plain() goes back to", () -> {
            SweepKeeper x = six();
            x.forge(0, 99);
            x.step(1000);
            is(0, x.row(0));
            x.undoStep();
            is(99, x.row(0));
            is(1, x.plain());
        });
        test("44 undoStep: leaves THE IMAGE, trace(), finding(), copied()", () -> {
            SweepKeeper x = six();
            x.step(0);
            x.image();
            x.measure(PAIR);
            x.copy(ROW, 0, TABLE, 0, 2);
            x.shelf(0, 8);
            x.undoStep();
            is(1, x.trace(0));
            is(BEYOND, x.finding());
            is(2, x.copied());
            is(1, x.load());
            is(1, x.phase());
        });
    }

    private static void none(String call, ToIntFunction<SweepKeeper> f) {
        test("45 finding: 0 behind " + call + " that had none", () -> {
            SweepKeeper x = six();
            x.shelf(0, 8);
            f.applyAsInt(x);
            is(0, x.finding());
        });
    }

    // "The FINDING of the latest call whose words name any of them (GONE of kind() or moved(), BEYOND of shelf(), too),
    // and which was not refused; 0: it had none."
    private static void findingOfEachCall() {
        test("45 finding: 0 ahead of all", () -> is(0, new SweepKeeper().finding()));
        none("make()", x -> x.make(PAIR, 0));
        none("kind()", x -> x.kind(PAIR));
        none("place()", x -> x.place(PAIR));
        none("measure()", x -> x.measure(PAIR));
        none("links()", x -> x.links(PAIR));
        none("link()", x -> x.link(PAIR, 0, NONE));
        none("get()", x -> x.get(PAIR, 0));
        none("weaken()", x -> x.weaken(WEAK, NONE));
        none("look()", x -> x.look(WEAK));
        none("number()", x -> x.number(WATCHED, -11));
        none("put()", x -> x.put(BYTES, 0, 1));
        none("byteAt()", x -> x.byteAt(BYTES, 0));
        none("key()", x -> x.key(TABLE, 0, 1));
        none("find()", x -> x.find(TABLE, 1));
        none("root()", x -> x.root(0, NONE));
        none("copy()", x -> x.copy(ROW, 0, TABLE, 0, 1));
        none("shelve()", x -> x.shelve(0, 0, NONE));
        none("shelf()", x -> x.shelf(0, 0));
        none("marked()", x -> x.marked(PAIR));
        none("moved()", x -> x.moved(PAIR));
        test("45 finding: GONE of kind()", () -> finds(GONE, x -> x.kind(BACK)));
        test("45 finding: GONE of moved()", () -> finds(GONE, x -> x.moved(BACK)));
        test("45 finding: BEYOND of shelf()", () -> finds(BEYOND, x -> x.shelf(0, 8)));
        test("45 finding: KIND of look()", () -> finds(KIND, x -> x.look(PAIR)));
        test("45 finding: SIZE of make()", () -> finds(SIZE, x -> x.make(ROW, -1)));
        test("45 finding: STORE of shelve()", () -> finds(STORE, x -> x.shelve(0, 0, ROW)));
        test("45 finding: ROOM of make()", () -> finds(ROOM, x -> x.make(ROW, 300)));
        test("45 finding: copy() that had BEYOND, though LINKS came", () -> {
            SweepKeeper x = six();
            x.copy(ROW, 0, TABLE, 0, 3);
            is(BEYOND, x.finding());
        });
        test("45 finding: the latest of two", () -> {
            SweepKeeper x = six();
            x.get(PAIR, 2);
            x.kind(BACK);
            is(GONE, x.finding());
        });
    }

    private static void stays(String call, ToIntFunction<SweepKeeper> f) {
        test("45 finding: " + call + " leaves it", () -> {
            SweepKeeper x = six();
            x.act(FAIL_ACT, 0, 0, 0, 0);
            x.step(1);
            x.image();
            x.shelf(0, 8);
            f.applyAsInt(x);
            is(BEYOND, x.finding());
        });
    }

    // "(RUNS name none.)"
    private static void findingStays() {
        stays("finding() itself", x -> x.finding());
        stays("rootOf()", x -> x.rootOf(0));
        stays("copied()", x -> x.copied());
        stays("step()", x -> x.step(1));
        stays("a step() that ENDS", x -> x.step(1000));
        stays("cycle()", x -> x.cycle());
        stays("phase()", x -> x.phase());
        stays("told()", x -> x.told(0, 0));
        stays("about()", x -> x.about(0));
        stays("word()", x -> x.word(0));
        stays("digest()", x -> x.digest());
        stays("rows()", x -> x.rows());
        stays("row()", x -> x.row(0));
        stays("forge()", x -> x.forge(0, -11));
        stays("a row() that tells -11", x -> x.forge(0, -11) + x.row(0));
        stays("plain()", x -> x.plain());
        stays("check()", x -> x.check());
        stays("act()", x -> x.act(8, 0, 0, 0, 0));
        stays("clear()", x -> x.clear());
        stays("a RUN with a FINDING", x -> x.run(1));
        stays("a RUN of none", x -> x.run(0));
        stays("found()", x -> x.found());
        stays("register()", x -> x.register(0));
        stays("image()", x -> x.image());
        stays("load()", x -> x.load());
        stays("undoStep()", x -> x.undoStep());
        stays("trace()", x -> x.trace(0));
        stays("a refused size()", x -> x.size(15));
        stays("a refused make()", x -> x.make(6, -1));
        stays("a refused get()", x -> x.get(NEXT, 0));
        stays("a refused link()", x -> x.link(PAIR, 0, NEXT));
        stays("a refused copy()", x -> x.copy(ROW, 0, NONE, 0, 1));
        stays("a refused shelf()", x -> x.shelf(4, 8));
        stays("a refused root()", x -> x.root(24, BACK));
    }

    // "How often body b was done since the beginning [..] UNKNOWN."
    private static void trace() {
        int[] unknown = {-1, 14, MIN, MAX};
        for (int b : unknown) {
            test("46 trace: there is no body " + b, () -> refused(UNKNOWN, x -> x.trace(b)));
        }
        test("46 trace: 0 and 13, the first and the last, at first", () -> {
            SweepKeeper x = new SweepKeeper();
            is(0, x.trace(0));
            is(0, x.trace(13));
        });
        test("46 trace: 0 to 8 by measure() and links() alone", () -> {
            SweepKeeper x = six();
            x.make(TABLE, 2);
            x.link(TABLE, 1, NEXT);
            x.copy(ROW, 0, TABLE, 0, 1);
            x.make(ROW, 255);
            x.step(2);
            x.cycle();
            for (int b = 0; b < 9; b++) {
                is(0, x.trace(b));
            }
        });
        test("46 trace: each body of all six KINDS", () -> {
            SweepKeeper x = six();
            for (int h = PAIR; h <= TABLE; h++) {
                x.measure(h);
                x.links(h);
            }
            int[] due = {3, 1, 2, 1, 1, 3, 2, 2, 1};
            for (int b = 0; b < 9; b++) {
                is(due[b], x.trace(b));
            }
        });
        test("46 trace: UNKNOWN and GONE do none", () -> {
            SweepKeeper x = six();
            x.measure(BACK);
            x.measure(NEXT);
            x.links(BACK);
            x.links(NONE);
            for (int b = 0; b < 9; b++) {
                is(0, x.trace(b));
            }
        });
        test("46 trace: since the beginning, whatever size(), load(), undoStep() bring", () -> {
            SweepKeeper x = six();
            x.image();
            x.step(0);
            x.measure(PAIR);
            x.undoStep();
            x.measure(PAIR);
            x.load();
            x.measure(PAIR);
            x.size(16);
            is(3, x.trace(0));
            is(1, x.trace(11));
        });
    }

    /** Bodies 9 to 13, behind all that was done with x. */
    private static void ends(String what, SweepKeeper x, int... due) {
        test("46 trace: " + what, () -> {
            for (int b = 9; b < 14; b++) {
                is(due[b - 9], x.trace(b));
            }
        });
    }

    // "9 a WEAK's WEAK LINK that became NONE as 2. of an END tells, of a WATCHED 10 and 9; 11 a CELL that is GIVEN
    // BACK, of a WATCHED 12 and 11; 13 one that SLIDES to another place."
    private static void traceOfEnds() {
        SweepKeeper weak = six();
        weak.weaken(WEAK, weak.make(PAIR, 0));
        weak.cycle();
        ends("a WEAK's that became NONE is 9 alone", weak, 1, 0, 2, 0, 0);

        SweepKeeper watched = six();
        watched.weaken(WATCHED, watched.make(PAIR, 0));
        watched.cycle();
        ends("a WATCHED's that became NONE is 10 and 9", watched, 1, 1, 2, 0, 0);

        SweepKeeper byHand = six();
        byHand.weaken(WATCHED, PAIR);
        byHand.weaken(WATCHED, NONE);
        byHand.cycle();
        ends("one that weaken() set to NONE is none", byHand, 0, 0, 1, 0, 0);

        SweepKeeper both = six();
        both.weaken(WATCHED, WEAK);
        both.root(WEAK, NONE);
        both.root(WATCHED, NONE);
        both.cycle();
        ends("GIVEN BACK a WATCHED is 12 and 11, a WEAK 11 alone; none of theirs fades", both, 0, 0, 3, 1, 1);

        SweepKeeper kept = six();
        kept.cycle();
        ends("those that lie low already do not SLIDE", kept, 0, 0, 1, 0, 0);

        SweepKeeper all = six();
        all.root(PAIR, NONE);
        all.cycle();
        ends("each that lies behind one GIVEN BACK SLIDES", all, 0, 0, 2, 0, 5);

        SweepKeeper last = six();
        last.root(TABLE, NONE);
        last.cycle();
        ends("none SLIDES where the last is GIVEN BACK", last, 0, 0, 2, 0, 0);

        SweepKeeper none = new SweepKeeper();
        none.cycle();
        ends("an END of nothing does none", none, 0, 0, 0, 0, 0);

        SweepKeeper many = fiveHundred();
        many.root(0, 499);
        many.cycle();
        ends("499 are GIVEN BACK, and the last one SLIDES", many, 0, 0, 499, 0, 1);
    }
}
