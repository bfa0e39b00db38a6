import java.util.Arrays;

/** Promises 2, 3, 23, 33 and 42 to 44 behind one size() after the other, up and down, on the same object. */
public final class SizesTest {
    private static final int NONE = SweepKeeper.NONE, UNKNOWN = SweepKeeper.UNKNOWN, NOT = SweepKeeper.NOT;
    private static final int ROOM = -16, ROW = 1, MOST_LINKS = 300, MOST_IN_STEP = 1000;
    private static final int[] UP_AND_DOWN = {16, 256, 257, 4000, 257, 256, 16};

    private final SweepKeeper x;
    private final int n;
    private final String at;
    private final int count;
    private final int[] paper;

    /** Rows fill the heap to its last int: as long as may be, and the rest in a last one. */
    private SizesTest(SweepKeeper x, int n, String at) {
        this.x = x;
        this.n = n;
        this.at = at + " ";
        count = (n + MOST_LINKS + 1) / (MOST_LINKS + 2);
        paper = paperOfFullHeap();
    }

    public static void main(String[] args) {
        SweepKeeper x = new SweepKeeper();
        for (int k = 0; k < UP_AND_DOWN.length; k++) {
            int n = UP_AND_DOWN[k];
            new SizesTest(x, n, "visit " + k + ", size " + n).visit();
        }
        for (int first : UP_AND_DOWN) {
            for (int second : UP_AND_DOWN) {
                SweepKeeper y = new SweepKeeper();
                new SizesTest(y, first, "size " + first + " ahead of " + second).visit();
                new SizesTest(y, second, "size " + second + " behind " + first).visit();
            }
        }
        Due.end();
    }

    private void visit() {
        begin();
        fill();
        image();
        stepToEnd();
        undoLastStep();
        loadBehindGivingBack();
        leaveAll();
    }

    /** A paper, an image and what undoStep() has are left for the next size() to drop. */
    private void leaveAll() {
        Due.is(at + "cycle for the next", 0, x.cycle());
        Due.is(at + "paper for the next", paper[paper.length - 1], x.row(paper.length - 1));
        Due.is(at + "image for the next", count, x.image());
        Due.is(at + "step for the next", 0, x.step(0));
    }

    private void begin() {
        Due.is(at + "size", 1, x.size(n));
        Due.is(at + "ints", n, x.about(0));
        Due.is(at + "free ints", n, x.about(1));
        Due.is(at + "no image", NOT, x.load());
        Due.is(at + "no step", NOT, x.undoStep());
        Due.is(at + "no paper", UNKNOWN, x.row(0));
        Due.is(at + "first int", 0, x.word(0));
        Due.is(at + "last int", 0, x.word(n - 1));
        Due.is(at + "no int behind", SweepKeeper.OUTSIDE, x.word(n));
    }

    private int linksOf(int h) {
        return h < count - 1 ? MOST_LINKS : n - (count - 1) * (MOST_LINKS + 2) - 2;
    }

    private void fill() {
        for (int h = 0; h < count; h++) {
            Due.is(at + "make " + h, h, x.make(ROW, linksOf(h)));
            Due.is(at + "root " + h, NONE, x.root(h, h));
        }
        Due.is(at + "nothing is free", 0, x.about(1));
        Due.is(at + "last int is a link", NONE, x.word(n - 1));
        Due.is(at + "make: room", ROOM, x.make(ROW, 0));
        Due.is(at + "make: too long a row", SweepKeeper.OUTSIDE, x.make(ROW, MOST_LINKS + 1));
    }

    private void image() {
        Due.is(at + "image", count, x.image());
        Due.is(at + "image is no step", NOT, x.undoStep());
    }

    private void stepToEnd() {
        int left = n - 2 * count;
        Due.is(at + "step 0", 0, x.step(0));
        Due.is(at + "marking", 1, x.phase());
        while (left > 0) {
            Due.is(at + "no paper with " + left + " left", UNKNOWN, x.row(0));
            Due.is(at + "step with " + left + " left", Math.min(left, MOST_IN_STEP), x.step(MOST_IN_STEP));
            left -= MOST_IN_STEP;
        }
        Due.is(at + "ended", 0, x.phase());
        comparePaper();
    }

    private int[] paperOfFullHeap() {
        int[] all = new int[27 + 4 * count + n];
        Arrays.fill(all, NONE);
        for (int r = 0; r < count; r++) {
            all[r] = r;
        }
        all[24] = count;
        int to = 25;
        for (int h = 0; h < count; h++) {
            int[] kept = {h, 0, h, NONE, h + 1, linksOf(h)};
            System.arraycopy(kept, 0, all, to, kept.length);
            to += kept.length + linksOf(h);
        }
        all[to] = 0;
        int s = 1;
        for (int k = 0; k <= to; k++) {
            s = 31 * s + all[k];
        }
        all[to + 1] = s;
        return all;
    }

    /** Asks for some numbers alone: an object has 512 calls. */
    private void comparePaper() {
        int last = paper.length - 1;
        Due.is(at + "rows", paper.length, x.rows());
        for (int k : new int[] {0, 23, 24, 25, 29, 30, last / 2, last - 2, last - 1, last}) {
            Due.is(at + "row " + k, paper[k], x.row(k));
        }
        Due.is(at + "row behind", UNKNOWN, x.row(last + 1));
        Due.is(at + "row ahead", UNKNOWN, x.row(-1));
        Due.is(at + "check", NONE, x.check());
    }

    private void undoLastStep() {
        int leftThen = (n - 2 * count) % MOST_IN_STEP;
        Due.is(at + "undo", 1, x.undoStep());
        Due.is(at + "undo: marking again", 1, x.phase());
        Due.is(at + "undo: no paper", UNKNOWN, x.row(0));
        Due.is(at + "undo: once", NOT, x.undoStep());
        Due.is(at + "undo: the same links are left", leftThen, x.step(MOST_IN_STEP));
        Due.is(at + "undo: the same sum", paper[paper.length - 1], x.row(paper.length - 1));
    }

    private void loadBehindGivingBack() {
        x.root(0, NONE);
        Due.is(at + "given back", 1, x.cycle());
        Due.is(at + "last int is free", 0, x.word(n - 1));
        Due.is(at + "load", 1, x.load());
        Due.is(at + "load: nothing is free", 0, x.about(1));
        Due.is(at + "load: last int is a link", NONE, x.word(n - 1));
        Due.is(at + "load: no paper", UNKNOWN, x.row(0));
        Due.is(at + "load: no step", NOT, x.undoStep());
        Due.is(at + "load: root", 0, x.rootOf(0));
        Due.is(at + "load: room", ROOM, x.make(ROW, 0));
        Due.is(at + "load: it stays", 1, x.load());
    }
}
