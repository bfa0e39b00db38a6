/** Promises 42 to 46: images, what undoStep() has, finding() and trace(). */
public final class ImagesTest {
    private static final int NONE = SweepKeeper.NONE, UNKNOWN = SweepKeeper.UNKNOWN, NOT = SweepKeeper.NOT;

    public static void main(String[] args) {
        image();
        load();
        loadKeepsTheRest();
        undoStep();
        undoStepOfRun();
        undoStepIsKeptOnce();
        undoAcrossImages();
        keptUnderWay();
        keptTellings();
        keptActs();
        keptFreeInts();
        largeStates();
        finding();
        findingNotNamed();
        trace();
        Due.end();
    }

    private static SweepKeeper busy() {
        SweepKeeper x = new SweepKeeper();
        x.make(0, 0);
        x.make(4, 0);
        x.make(0, 0);
        x.make(5, 2);
        x.link(0, 0, 1);
        x.link(0, 1, 3);
        x.root(0, 0);
        x.weaken(1, 2);
        x.number(1, 44);
        x.shelve(1, 3, 3);
        x.act(0, 0, 0, 0, 0);
        x.act(9, 1, 0, 0, 0);
        x.act(8, 1, 0, 0, 0);
        return x;
    }

    /** Folds all that calls tell of THE STATE into one number. */
    private static int stateOf(SweepKeeper x) {
        int d = x.digest();
        for (int what = 0; what < 16; what++) {
            d = 31 * d + x.about(what);
        }
        for (int k = 0; k < x.about(0); k++) {
            d = 31 * d + x.word(k);
        }
        for (int h = 0; h < x.about(2); h++) {
            d = 31 * d + x.marked(h);
            d = 31 * d + x.moved(h);
            d = 31 * d + x.place(h);
        }
        for (int k = 0; k < 32; k++) {
            d = 31 * d + x.shelf(k / 8, k % 8);
        }
        for (int r = 0; r < 8; r++) {
            d = 31 * d + x.register(r);
        }
        for (int k = 0; k < x.rows(); k++) {
            d = 31 * d + x.row(k);
        }
        for (int k = 0; k < 100; k++) {
            for (int what = 0; what < 3; what++) {
                d = 31 * d + x.told(k, what);
            }
        }
        return d;
    }

    private static void changeAll(SweepKeeper x) {
        x.clear();
        x.act(0, 5, 2, 8, 0);
        x.act(10, 5, 0, 0, 0);
        x.run(5);
        x.link(0, 1, NONE);
        x.root(4, x.register(5));
        x.root(0, NONE);
        x.cycle();
        x.make(1, 9);
        x.cycle();
        x.forge(0, 77);
    }

    private static void image() {
        SweepKeeper x = new SweepKeeper();
        Due.is("image: no cells", 0, x.image());
        x = busy();
        Due.is("image: cells", 4, x.image());
        x.cycle();
        Due.is("image: those there", 3, x.image());
        Due.is("image: changes nothing", 1, x.about(4));
        x.make(0, 0);
        x.load();
        Due.is("image: the latest", 3, x.about(3));
    }

    private static void load() {
        SweepKeeper x = busy();
        Due.is("load: none", NOT, x.load());
        x.cycle();
        x.forge(3, 9);
        x.step(1);
        x.image();
        int state = stateOf(x);
        changeAll(x);
        Due.isTrue("load: it is changed", stateOf(x) != state);
        Due.is("load", 1, x.load());
        Due.is("load: all is as it was", state, stateOf(x));
        Due.is("load: plain() goes back as then", 1, x.plain());
        Due.is("load: right", NONE, x.check());
        changeAll(x);
        Due.is("load: it stays", 1, x.load());
        Due.is("load: again", state, stateOf(x));
        Due.is("load: handles go on as then", 4, x.make(0, 0));
        Due.is("load: marked as made", 3, x.marked(4));
    }

    private static void loadKeepsTheRest() {
        SweepKeeper x = busy();
        x.image();
        x.measure(0);
        x.copy(3, 0, 3, 0, 2);
        x.clear();
        x.act(10, 0, 0, 0, 0);
        x.run(1);
        x.get(0, 9);
        x.load();
        Due.is("load: trace stays", 1, x.trace(0));
        Due.is("load: finding stays", 2, x.finding());
        Due.is("load: copied stays", 2, x.copied());
        Due.is("load: found stays", 8, x.found());
    }

    private static void undoStep() {
        SweepKeeper x = busy();
        Due.is("undo: none", NOT, x.undoStep());
        int state = stateOf(x);
        x.step(1);
        changeAll(x);
        x.copy(3, 0, 3, 0, 0);
        Due.is("undo", 1, x.undoStep());
        Due.is("undo: all is as it was", state, stateOf(x));
        Due.is("undo: trace stays", 5, x.trace(11));
        Due.is("undo: once", NOT, x.undoStep());
        x.step(1000);
        Due.is("undo: told", 44, x.told(0, 1));
        x.step(1001);
        x.step(-1);
        Due.is("undo: a refused one is none", 1, x.undoStep());
        Due.is("undo: an end too", state, stateOf(x));
        Due.is("undo: not told", NONE, x.told(0, 1));
    }

    private static void undoStepOfRun() {
        SweepKeeper x = busy();
        x.run(3);
        Due.is("undo: next", 0, x.about(13));
        Due.is("undo: of a run", 1, x.undoStep());
        Due.is("undo: STEP is next again", 1, x.about(13));
        Due.is("undo: it is not counted", 1, x.about(14));
        Due.is("undo: MAKE ahead of it stays", 4, x.register(0));
        Due.is("undo: no cycle", 0, x.phase());
        x.clear();
        x.act(9, 0, 0, 0, 0);
        x.act(10, 0, 0, 0, 0);
        x.run(2);
        Due.is("undo: a finding", 1, x.about(15));
        x.undoStep();
        Due.is("undo: findings behind it are not counted", 0, x.about(15));
        Due.is("undo: found stays", 8, x.found());
        Due.is("undo: the acts stay", 2, x.about(12));
    }

    private static void undoStepIsKeptOnce() {
        SweepKeeper x = busy();
        x.step(0);
        int state = stateOf(x);
        x.step(1);
        x.undoStep();
        Due.is("undo: the latest", state, stateOf(x));
        Due.is("undo: no other", NOT, x.undoStep());
        x.step(0);
        x.run(2);
        x.undoStep();
        Due.is("undo: STEP was the latest", 1, x.about(13));
        x.run(2);
        x.step(0);
        x.undoStep();
        Due.is("undo: step() was the latest", 0, x.about(13));
    }

    private static void undoAcrossImages() {
        SweepKeeper x = busy();
        x.step(0);
        x.load();
        x.image();
        Due.is("undo: a load() that is refused and image() leave it", 1, x.undoStep());
        Due.is("undo: image stays", 1, x.load());
        x.step(0);
        x.load();
        Due.is("undo: gone with load()", NOT, x.undoStep());
    }

    /** What the paper will tell of marks made ahead of image() must come back, too. */
    private static void keptUnderWay() {
        SweepKeeper x = busy();
        x.make(0, 0);
        x.make(0, 0);
        x.link(3, 0, 4);
        x.step(1);
        x.link(3, 0, 5);
        x.look(1);
        x.root(9, 4);
        x.image();
        x.step(9);
        x.step(9);
        int papers = stateOf(x);
        x.load();
        Due.is("kept: open ones", 5, x.about(11));
        x.cycle();
        for (int r = 0; r < 6; r++) {
            x.root(r, r);
        }
        x.cycle();
        x.step(7);
        x.load();
        Due.is("kept: so many are left", 9, x.step(9));
        Due.is("kept: and one", 1, x.step(9));
        Due.is("kept: the paper is right", NONE, x.check());
        x.load();
        x.step(9);
        x.step(9);
        Due.is("kept: it goes on the same way", papers, stateOf(x));
    }

    private static void keptTellings() {
        SweepKeeper x = busy();
        x.step(0);
        x.number(1, 5);
        x.step(99);
        Due.is("kept: a telling", 5, x.told(0, 1));
        int state = stateOf(x);
        x.image();
        x.undoStep();
        Due.is("kept: none ahead of it", NONE, x.told(0, 1));
        x.number(1, 6);
        x.cycle();
        Due.is("kept: another telling", 6, x.told(0, 1));
        x.load();
        Due.is("kept: the first again", 5, x.told(0, 1));
        Due.is("kept: all", state, stateOf(x));
    }

    private static void keptActs() {
        SweepKeeper x = busy();
        x.image();
        x.clear();
        x.act(10, 0, 0, 0, 0);
        x.act(10, 0, 0, 0, 0);
        x.act(10, 0, 0, 0, 0);
        x.load();
        Due.is("kept: acts", 3, x.run(3));
        Due.is("kept: found none", 0, x.found());
        Due.is("kept: MAKE was the first", 4, x.register(0));
        Due.is("kept: STEP was the second", 1, x.phase());
    }

    private static void keptFreeInts() {
        SweepKeeper x = busy();
        x.image();
        int free = x.about(1);
        x.make(5, 9);
        x.load();
        for (int k = 256 - free; k < 256; k++) {
            Due.is("kept: free int " + k, 0, x.word(k));
        }
        x.make(5, 1);
        Due.is("kept: key", 0, x.find(4, 0));
    }

    private static void largeStates() {
        SweepKeeper x = new SweepKeeper();
        x.image();
        x.step(0);
        x.size(4000);
        Due.is("large: image is gone", NOT, x.load());
        for (int k = 0; k < 12; k++) {
            x.root(k, x.make(1, 300));
        }
        x.cycle();
        int state = stateOf(x);
        x.image();
        x.step(500);
        x.size(4000);
        Due.is("large: image is gone", NOT, x.load());
        Due.is("large: step is gone", NOT, x.undoStep());
        for (int k = 0; k < 12; k++) {
            x.root(k, x.make(1, 300));
        }
        x.cycle();
        Due.is("large: the same again", state, stateOf(x));
        x.step(700);
        x.link(3, 299, 4);
        x.undoStep();
        Due.is("large: undone", state, stateOf(x));
        Due.is("large: rows", 27 + 12 * 306, x.rows());
        Due.is("large: right", NONE, x.check());
        x.forge(3000, 5000);
        Due.is("large: forged", 3000, x.check());
        x.step(0);
        x.plain();
        x.undoStep();
        Due.is("large: forged again", 3000, x.check());
    }

    private static void finding() {
        SweepKeeper x = busy();
        Due.is("finding: 0", 0, x.finding());
        x.get(0, 5);
        Due.is("finding: beyond", 2, x.finding());
        Due.is("finding: again", 2, x.finding());
        x.get(99, 5);
        x.make(9, 0);
        x.shelf(9, 0);
        Due.is("finding: refused ones leave it", 2, x.finding());
        int[] named = new int[20];
        for (int k = 0; k < named.length; k++) {
            x.shelf(0, 8);
            named[k] = callNaming(x, k);
            Due.isTrue("finding: call " + k + " has none", named[k] >= NONE);
            Due.is("finding: of call " + k, 0, x.finding());
        }
    }

    /** Each call whose words name findings, without one. */
    private static int callNaming(SweepKeeper x, int k) {
        switch (k) {
            case 0: return x.make(2, 3);
            case 1: return x.kind(0);
            case 2: return x.place(0);
            case 3: return x.measure(0);
            case 4: return x.links(0);
            case 5: return x.link(0, 0, 1);
            case 6: return x.get(0, 0);
            case 7: return x.weaken(1, 2);
            case 8: return x.look(1);
            case 9: return x.number(1, 44);
            case 10: return x.put(4, 0, 1);
            case 11: return x.byteAt(4, 0);
            case 12: return x.key(3, 0, 1);
            case 13: return x.find(3, 1);
            case 14: return x.root(0, 0);
            case 15: return x.copy(3, 0, 3, 1, 1);
            case 16: return x.shelve(0, 0, 0);
            case 17: return x.shelf(0, 0);
            case 18: return x.marked(0);
            default: return x.moved(0);
        }
    }

    private static void findingNotNamed() {
        SweepKeeper x = busy();
        x.get(0, 5);
        x.rootOf(0);
        x.copied();
        x.step(1);
        x.cycle();
        x.phase();
        x.told(0, 0);
        x.about(0);
        x.word(0);
        x.digest();
        x.rows();
        x.row(0);
        x.forge(0, 0);
        x.plain();
        x.check();
        x.act(8, 0, 0, 0, 0);
        x.run(4);
        x.clear();
        x.found();
        x.register(0);
        x.image();
        x.load();
        x.step(0);
        x.undoStep();
        x.trace(0);
        Due.is("finding: these name none", 2, x.finding());
    }

    private static void trace() {
        SweepKeeper x = busy();
        Due.is("trace: 14", UNKNOWN, x.trace(14));
        Due.is("trace: -1", UNKNOWN, x.trace(-1));
        x.make(4, 0);
        x.make(0, 0);
        x.root(1, 5);
        x.cycle();
        int[] due = {0, 0, 0, 0, 0, 0, 0, 0, 0, 1, 1, 2, 1, 2};
        for (int b = 0; b < 14; b++) {
            Due.is("trace " + b, due[b], x.trace(b));
        }
        x.links(1);
        x.measure(3);
        Due.is("trace: 6", 1, x.trace(6));
        Due.is("trace: and 5", 1, x.trace(5));
        Due.is("trace: 3", 1, x.trace(3));
        Due.is("trace: and 2", 1, x.trace(2));
        Due.is("trace: not 7", 0, x.trace(7));
    }
}
