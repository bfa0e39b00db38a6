/** Promises 23 to 31: steps, cycles and what they tell. */
public final class CyclesTest {
    private static final int NONE = SweepKeeper.NONE, UNKNOWN = SweepKeeper.UNKNOWN, OUTSIDE = SweepKeeper.OUTSIDE;
    private static final int NOT = SweepKeeper.NOT;
    private static final int GONE = -11;
    private static final int MIN = Integer.MIN_VALUE, MAX = Integer.MAX_VALUE;

    public static void main(String[] args) {
        step();
        stepThatEndsAtOnce();
        stepSkipsBytes();
        cycle();
        phase();
        marked();
        marksOfChanges();
        marksOfUnmarkedCells();
        noMarks();
        reasonsOnPaper();
        moved();
        told();
        toldBeyond100();
        about();
        word();
        digest();
        Due.end();
    }

    /** A chain of n pairs by their left links, pair 0 in root 0. */
    private static SweepKeeper chain(int n) {
        SweepKeeper x = new SweepKeeper();
        for (int k = 0; k < n; k++) {
            x.make(0, 0);
            if (k > 0) {
                x.link(k - 1, 0, k);
            }
        }
        x.root(0, 0);
        return x;
    }

    private static void step() {
        SweepKeeper x = chain(3);
        Due.is("step: -1", OUTSIDE, x.step(-1));
        Due.is("step: 1001", OUTSIDE, x.step(1001));
        Due.is("step: refused keeps none", NOT, x.undoStep());
        Due.is("step: none is under way", 0, x.phase());
        Due.is("step: 0", 0, x.step(0));
        Due.is("step: root is marked", 1, x.about(10));
        Due.is("step: 1", 1, x.step(1));
        Due.is("step: 1 is marked", 2, x.marked(1));
        Due.is("step: NONE counts", 1, x.step(1));
        Due.is("step: two", 2, x.about(10));
        Due.is("step: one is open", 1, x.about(11));
        Due.is("step: three", 3, x.step(3));
        Due.is("step: goes on", 1, x.phase());
        Due.is("step: the last", 1, x.step(1000));
        Due.is("step: ended", 0, x.phase());
        Due.is("step: a cycle", 1, x.about(4));
        Due.is("step: a whole one", 6, x.step(6));
        Due.is("step: ended", 2, x.about(4));
        Due.is("step: one too few", 5, x.step(5));
        Due.is("step: goes on", 2, x.about(4));
    }

    private static void stepThatEndsAtOnce() {
        SweepKeeper x = new SweepKeeper();
        Due.is("step: nothing", 0, x.step(0));
        Due.is("step: ended", 1, x.about(4));
        x.make(2, 3);
        x.root(5, 0);
        x.make(0, 0);
        Due.is("step: bytes alone", 0, x.step(0));
        Due.is("step: ended", 2, x.about(4));
        Due.is("step: gave back", 1, x.about(6));
    }

    private static void stepSkipsBytes() {
        SweepKeeper x = new SweepKeeper();
        x.make(1, 2);
        x.make(2, 0);
        x.make(1, 0);
        x.root(0, 0);
        x.link(0, 0, 1);
        x.link(0, 1, 2);
        Due.is("step: one of two", 1, x.step(1));
        Due.is("step: one open", 1, x.about(11));
        Due.is("step: marked", 2, x.about(10));
        Due.is("step: the other", 1, x.step(1));
        Due.is("step: those behind have no links", 1, x.about(4));
    }

    private static void cycle() {
        SweepKeeper x = chain(4);
        x.link(1, 0, NONE);
        Due.is("cycle: two are out of reach", 2, x.cycle());
        Due.is("cycle: gone", GONE, x.kind(2));
        Due.is("cycle: again", 0, x.cycle());
        x.step(1);
        x.make(0, 0);
        x.root(0, NONE);
        Due.is("cycle: those marked stay", 0, x.cycle());
        Due.is("cycle: next time they do not", 3, x.cycle());
        Due.is("cycle: four", 4, x.about(4));
        Due.is("cycle: nothing is left", 256, x.about(1));
        x = new SweepKeeper();
        Due.is("cycle: of nothing", 0, x.cycle());
        x.make(0, 0);
        x.make(0, 0);
        x.link(0, 0, 1);
        x.link(1, 0, 0);
        Due.is("cycle: a ring", 2, x.cycle());
    }

    private static void phase() {
        SweepKeeper x = chain(1);
        Due.is("phase: not", 0, x.phase());
        x.step(1);
        Due.is("phase: marking", 1, x.phase());
        x.get(0, 0);
        Due.is("phase: only a step ends it", 1, x.phase());
        x.cycle();
        Due.is("phase: ended", 0, x.phase());
    }

    private static void marked() {
        SweepKeeper x = chain(3);
        x.make(0, 0);
        Due.is("marked: not under way", 0, x.marked(0));
        x.root(7, 2);
        x.root(3, 1);
        x.root(9, 1);
        x.step(0);
        Due.is("marked: root 0", 1, x.marked(0));
        Due.is("marked: root 3", 2, x.marked(1));
        Due.is("marked: root 7", 3, x.marked(2));
        Due.is("marked: not", 0, x.marked(3));
        Due.is("marked: unknown", UNKNOWN, x.marked(4));
        Due.is("marked: NONE", UNKNOWN, x.marked(NONE));
        x.cycle();
        Due.is("marked: none behind the end", 0, x.marked(0));
        Due.is("marked: gone", GONE, x.marked(3));
        Due.is("marked: finding", 1, x.finding());
    }

    private static void marksOfChanges() {
        SweepKeeper x = chain(1);
        for (int k = 1; k < 9; k++) {
            x.make(3, 0);
        }
        x.link(0, 1, 1);
        x.root(1, 3);
        x.weaken(3, 4);
        x.step(0);
        x.link(0, 1, 2);
        Due.is("changes: overwritten", 3, x.marked(1));
        Due.is("changes: set", 4, x.marked(2));
        Due.is("changes: look", 4, x.look(3));
        Due.is("changes: looked at", 5, x.marked(4));
        x.root(2, 5);
        Due.is("changes: root", 6, x.marked(5));
        x.root(2, 6);
        Due.is("changes: root's", 7, x.marked(6));
        x.link(0, 0, 5);
        Due.is("changes: marked already", 6, x.marked(5));
        Due.is("changes: made", 9, x.make(2, 1));
        Due.is("changes: made is marked", 8, x.marked(9));
        Due.is("changes: how many", 8, x.about(10));
    }

    private static void marksOfUnmarkedCells() {
        SweepKeeper x = chain(1);
        for (int k = 1; k < 5; k++) {
            x.make(1, 2);
        }
        x.link(1, 0, 2);
        x.link(4, 1, 4);
        x.step(0);
        x.link(1, 0, 3);
        Due.is("unmarked: it stays so", 0, x.marked(1));
        Due.is("unmarked: overwritten", 2, x.marked(2));
        Due.is("unmarked: set", 3, x.marked(3));
        x.link(4, 1, 4);
        Due.is("unmarked: the same", 4, x.marked(4));
        Due.is("unmarked: one is given back", 1, x.cycle());
        Due.is("unmarked: it", GONE, x.kind(1));
    }

    private static void noMarks() {
        SweepKeeper x = chain(1);
        for (int k = 1; k < 6; k++) {
            x.make(3, 0);
        }
        x.link(1, 0, 2);
        x.root(1, 4);
        x.step(0);
        x.root(1, NONE);
        x.get(1, 0);
        x.rootOf(0);
        x.weaken(1, 3);
        x.weaken(1, 5);
        x.shelve(0, 0, 2);
        x.link(0, 0, NONE);
        x.look(2);
        Due.is("no marks: two roots' alone", 2, x.about(10));
        Due.is("no marks: what a root had", 2, x.marked(4));
        for (int h = 1; h < 6; h++) {
            Due.is("no marks: of " + h, h == 4 ? 2 : 0, x.marked(h));
        }
        x.cycle();
        x.link(0, 0, 4);
        Due.is("no marks: none is under way", 0, x.marked(4));
    }

    private static void reasonsOnPaper() {
        SweepKeeper x = chain(2);
        for (int k = 2; k < 7; k++) {
            x.make(3, 0);
        }
        x.link(2, 0, 3);
        x.root(5, 4);
        x.weaken(4, 5);
        x.step(0);
        x.link(2, 0, 2);
        x.look(4);
        x.root(23, 6);
        x.make(2, 0);
        x.cycle();
        // handle, reason, its two numbers, number; all are kept
        int[][] due = {{0, 0, 0, NONE, 1}, {1, 1, 0, 0, 8}, {2, 3, 2, 0, 4}, {3, 2, 2, 0, 3}, {4, 0, 5, NONE, 2},
            {5, 4, 4, 0, 5}, {6, 3, NONE, 23, 6}, {7, 5, NONE, NONE, 7}};
        Due.is("paper: kept", 8, x.row(24));
        int at = 25;
        for (int[] kept : due) {
            for (int k = 0; k < 5; k++) {
                Due.is("paper: of " + kept[0] + " number " + k, kept[k], x.row(at + k));
            }
            at += 6 + x.row(at + 5);
        }
        Due.is("paper: given back", 0, x.row(at));
        Due.is("paper: whole", at + 2, x.rows());
        Due.is("paper: right", NONE, x.check());
    }

    private static void moved() {
        SweepKeeper x = new SweepKeeper();
        x.make(0, 0);
        x.make(1, 2);
        x.make(0, 0);
        x.make(2, 5);
        x.put(3, 4, 9);
        x.root(0, 1);
        x.root(1, 3);
        x.link(1, 1, 3);
        Due.is("moved: none yet", 0, x.moved(1));
        x.cycle();
        Due.is("moved: by one pair", 3, x.moved(1));
        Due.is("moved: by two", 6, x.moved(3));
        Due.is("moved: place", 0, x.place(1));
        Due.is("moved: place", 4, x.place(3));
        Due.is("moved: links go along", 3, x.get(1, 1));
        Due.is("moved: bytes go along", 9, x.byteAt(3, 4));
        Due.is("moved: word", 25 + 1, x.word(4));
        Due.is("moved: free is 0", 0, x.word(8));
        Due.is("moved: free", 248, x.about(1));
        Due.is("moved: gone", GONE, x.moved(0));
        Due.is("moved: finding", 1, x.finding());
        Due.is("moved: made since", 0, x.moved(x.make(0, 0)));
        Due.is("moved: unknown", UNKNOWN, x.moved(5));
        Due.is("moved: NONE", UNKNOWN, x.moved(NONE));
        Due.is("moved: slid", 2, x.trace(13));
        x.cycle();
        Due.is("moved: the latest alone", 0, x.moved(3));
        Due.is("moved: slid none", 2, x.trace(13));
    }

    private static void told() {
        SweepKeeper x = new SweepKeeper();
        x.make(4, 0);
        x.make(3, 0);
        x.make(4, 0);
        x.make(4, 0);
        x.make(0, 0);
        for (int h = 0; h < 3; h++) {
            x.root(h, h);
        }
        x.number(0, -102);
        x.number(2, 7);
        x.cycle();
        Due.is("told: a weak link to none fades not", 0, x.about(9));
        Due.is("told: NONE", NONE, x.told(0, 0));
        x.make(0, 0);
        for (int h = 0; h < 3; h++) {
            x.weaken(h, 5);
        }
        x.cycle();
        int[][] due = {{0, -102, 2}, {2, 7, 2}};
        for (int k = 0; k < 2; k++) {
            for (int what = 0; what < 3; what++) {
                Due.is("told " + k + " " + what, due[k][what], x.told(k, what));
            }
        }
        Due.is("told: two", 2, x.about(9));
        Due.is("told: faded", 3, x.trace(9));
        Due.is("told: faded watched", 2, x.trace(10));
        Due.is("told: given back", 3, x.trace(11));
        Due.is("told: given back watched", 1, x.trace(12));
        Due.is("told: look", NONE, x.look(1));
        Due.is("told: behind", NONE, x.told(2, 0));
        Due.is("told: below", NONE, x.told(-1, 0));
        Due.is("told: far", NONE, x.told(MAX, 2));
        Due.is("told: far", NONE, x.told(MIN, 2));
        Due.is("told: what 3", OUTSIDE, x.told(0, 3));
        Due.is("told: what -1", OUTSIDE, x.told(-1, -1));
    }

    private static void toldBeyond100() {
        SweepKeeper x = new SweepKeeper();
        for (int r = 0; r < 11; r++) {
            x.make(4, 0);
            x.root(r, r);
        }
        for (int c = 0; c < 10; c++) {
            int t = x.make(0, 0);
            for (int r = 0; r < 11; r++) {
                x.weaken(r, t);
            }
            x.cycle();
        }
        Due.is("told: 110", 110, x.about(9));
        Due.is("told: 99", 0, x.told(99, 0));
        Due.is("told: 99 as which cycle ended", 10, x.told(99, 2));
        Due.is("told: 100", NONE, x.told(100, 0));
        Due.is("told: 109", NONE, x.told(109, 0));
        Due.is("told: all faded", 110, x.trace(10));
    }

    private static void about() {
        SweepKeeper x = chain(3);
        x.make(0, 0);
        x.make(1, 1);
        x.root(1, 4);
        x.make(0, 0);
        x.cycle();
        x.make(2, 8);
        x.act(8, 0, 0, 0, 0);
        x.act(10, 0, 0, 0, 0);
        x.act(8, 0, 0, 0, 0);
        x.run(9);
        x.step(1);
        int[] due = {256, 240, 7, 5, 1, 4, 2, 1, 2, 0, 3, 3, 3, 2, 2, 1};
        for (int what = 0; what < 16; what++) {
            Due.is("about " + what, due[what], x.about(what));
        }
        Due.is("about: 16", OUTSIDE, x.about(16));
        Due.is("about: -1", OUTSIDE, x.about(-1));
        x.cycle();
        Due.is("about: given back of the latest", 1, x.about(6));
        Due.is("about: in all", 3, x.about(8));
        Due.is("about: slid none", 0, x.about(7));
        Due.is("about: marked none", 0, x.about(10));
        Due.is("about: open none", 0, x.about(11));
    }

    private static void word() {
        SweepKeeper x = new SweepKeeper();
        x.make(4, 0);
        x.number(0, -102);
        Due.is("word: header", 4, x.word(0));
        Due.is("word: as a refusal is", -102, x.word(3));
        Due.is("word: the last", 0, x.word(255));
        Due.is("word: 256", OUTSIDE, x.word(256));
        Due.is("word: -1", OUTSIDE, x.word(-1));
        x.cycle();
        Due.is("word: free again", 0, x.word(3));
    }

    private static int fold(int d, int v) {
        return 31 * d + v;
    }

    private static void digest() {
        SweepKeeper x = new SweepKeeper();
        int d = 7;
        for (int r = 0; r < 24; r++) {
            d = fold(d, NONE);
        }
        Due.is("digest: new", fold(d, 0), x.digest());
        x.make(0, 0);
        x.root(2, 0);
        x.link(0, 1, 0);
        x.step(0);
        d = fold(fold(fold(7, 0), NONE), 0);
        for (int r = 0; r < 24; r++) {
            d = fold(d, r == 2 ? 0 : NONE);
        }
        Due.is("digest: marking", fold(d, 1), x.digest());
        x.cycle();
        Due.is("digest: not", fold(d, 0), x.digest());
    }
}
