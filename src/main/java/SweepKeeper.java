import java.util.Arrays;

/**
 * A keeper of cells in a heap of ints: it marks in small steps while links go on changing, gives back
 * what was not marked, slides the rest together, and writes a paper of each cycle that can be checked alone.
 */
public final class SweepKeeper {
    public static final int NONE = -1, UNKNOWN = -101, OUTSIDE = -102, NOT = -104;

    private static final int FIRST_SIZE = 256, LEAST_SIZE = 16, MOST_SIZE = 4000;
    private static final int HANDLES = 500, MOST_COUNT = 300;
    private static final int ROOTS = 24, SHELVES = 4, SHELF_PLACES = 8;
    private static final int REGISTERS = 8, ACTS = 40, ACT_INTS = 5, MOST_IN_RUN = 200, MOST_IN_STEP = 1000;
    // A kept cell has at least two ints, fewer links than ints, and six numbers more; one given back has one number.
    private static final int MOST_PAPER = ROOTS + 3 + MOST_SIZE + 4 * HANDLES + HANDLES;
    private static final int TELLINGS = 100, TELLING_INTS = 3, BODIES = 14;

    private static final int PAIR = 0, ROW = 1, BYTES = 2, WEAK = 3, WATCHED = 4, TABLE = 5, KINDS = 6;

    // Findings are held as the answers that tell them: of acts and calls that may have one, only number() answers
    // these otherwise.
    private static final int GONE = -11, BEYOND = -12, WRONG_KIND = -13, BELOW_ZERO = -14, STORE = -15, ROOM = -16;
    private static final int FAIL = -17, FAIL_OF_NOTHING = -18;

    private static final int BY_ROOT = 0, BY_LINK = 1, OVERWRITTEN = 2, SET = 3, LOOKED_AT = 4, MADE = 5;

    // Bit k of number w: a cell of kind k is a w, too.
    private static final int[] KINDS_THAT_ARE = {0b011001, 0b100010, 0b000100, 0b011000, 0b010000, 0b100000};

    private static final int[] MEASURE_BODY = {0, 2, 4, 0, 1, 3};
    private static final int[] MEASURE_UPPER_BODY = {NONE, NONE, NONE, NONE, 0, 2};
    private static final int[] LINKS_BODY = {5, 7, 8, 6, 6, 7};
    private static final int[] LINKS_UPPER_BODY = {NONE, NONE, NONE, 5, 5, NONE};
    private static final int FADED = 9, FADED_WATCHED = 10, GIVEN_BACK = 11, GIVEN_BACK_WATCHED = 12, SLID = 13;

    private static final int MAKE = 0, LINK = 1, GET = 2, ROOT = 3, TAKE = 4, LOOK = 5, WEAKEN = 6, COPY = 7;
    private static final int DROP = 8, STEP = 9, FAIL_ACT = 10, PUT = 11, SHELVE = 12;

    // How many names there are for a, b, c of each act (registers, roots, shelves); 0: it is no name.
    private static final int[] NAMES_A = {8, 8, 8, 24, 24, 8, 8, 8, 8, 0, 0, 8, 4};
    private static final int[] NAMES_B = {0, 0, 0, 8, 8, 8, 8, 0, 0, 0, 0, 0, 0};
    private static final int[] NAMES_C = {0, 8, 8, 0, 0, 0, 0, 8, 0, 0, 0, 0, 8};

    private final State now;
    private final Sweeper sweeper;
    private final Cells cells;
    private final Checker checker;
    private final int[] bodies;
    private int lastFinding;
    private int lastFound;
    private final State image;
    private boolean imageKept;
    private final State before;
    private boolean beforeKept;

    /** All rows are made here, for the largest heap: no call makes any, so 512 calls make no more than this. */
    public SweepKeeper() {
        now = new State();
        image = new State();
        before = new State();
        bodies = new int[BODIES];
        sweeper = new Sweeper(now, bodies);
        cells = new Cells(now, sweeper);
        checker = new Checker();
    }

    public int size(int n) {
        if (n < LEAST_SIZE || n > MOST_SIZE) {
            return OUTSIDE;
        }
        now.startAnew(n);
        cells.cameByCopy = 0;
        lastFinding = 0;
        lastFound = 0;
        imageKept = false;
        beforeKept = false;
        return 1;
    }

    // ---- cells

    public int make(int kind, int n) {
        if (isOutsideOfMaking(kind, n)) {
            return OUTSIDE;
        }
        return answer(cells.makeCell(kind, n));
    }

    public int kind(int h) {
        if (!now.heap.wasMade(h)) {
            return UNKNOWN;
        }
        return answer(now.heap.has(h) ? now.heap.kindOf(h) : GONE);
    }

    public int place(int h) {
        if (!now.heap.wasMade(h)) {
            return UNKNOWN;
        }
        return answer(now.heap.has(h) ? now.heap.places[h] : GONE);
    }

    public int measure(int h) {
        if (!now.heap.wasMade(h)) {
            return UNKNOWN;
        }
        if (!now.heap.has(h)) {
            return answer(GONE);
        }
        int kind = now.heap.kindOf(h);
        countBodies(MEASURE_BODY[kind], MEASURE_UPPER_BODY[kind]);
        return answer(now.heap.intsOf(h));
    }

    public int links(int h) {
        if (!now.heap.wasMade(h)) {
            return UNKNOWN;
        }
        if (!now.heap.has(h)) {
            return answer(GONE);
        }
        int kind = now.heap.kindOf(h);
        countBodies(LINKS_BODY[kind], LINKS_UPPER_BODY[kind]);
        return answer(now.heap.linksOf(h));
    }

    public int link(int h, int i, int t) {
        if (!now.heap.wasMade(h) || isUnknownTarget(t)) {
            return UNKNOWN;
        }
        return answer(cells.setLink(h, i, t));
    }

    public int get(int h, int i) {
        if (!now.heap.wasMade(h)) {
            return UNKNOWN;
        }
        return answer(cells.linkOf(h, i));
    }

    public int weaken(int h, int t) {
        if (!now.heap.wasMade(h) || isUnknownTarget(t)) {
            return UNKNOWN;
        }
        return answer(cells.setWeakLink(h, t));
    }

    public int look(int h) {
        if (!now.heap.wasMade(h)) {
            return UNKNOWN;
        }
        return answer(cells.lookAt(h));
    }

    public int number(int h, int v) {
        if (!now.heap.wasMade(h)) {
            return UNKNOWN;
        }
        int wrong = cells.wrongAs(WATCHED, h);
        // What the number was may look like a finding, so it must not go through answer().
        answer(wrong);
        return wrong != 0 ? wrong : now.heap.swapNumber(h, v);
    }

    public int put(int h, int i, int v) {
        if (!now.heap.wasMade(h)) {
            return UNKNOWN;
        }
        return answer(cells.setByte(h, i, v));
    }

    public int byteAt(int h, int i) {
        if (!now.heap.wasMade(h)) {
            return UNKNOWN;
        }
        return answer(cells.byteOf(h, i));
    }

    public int key(int h, int i, int v) {
        if (!now.heap.wasMade(h)) {
            return UNKNOWN;
        }
        return answer(cells.setKey(h, i, v));
    }

    public int find(int h, int v) {
        if (!now.heap.wasMade(h)) {
            return UNKNOWN;
        }
        return answer(cells.placeOfKey(h, v));
    }

    public int root(int r, int t) {
        if (r < 0 || r >= ROOTS || isUnknownTarget(t)) {
            return UNKNOWN;
        }
        return answer(cells.setRoot(r, t));
    }

    public int rootOf(int r) {
        return r < 0 || r >= ROOTS ? UNKNOWN : now.roots[r];
    }

    public int copy(int h, int i, int g, int j, int n) {
        if (!now.heap.wasMade(h) || !now.heap.wasMade(g)) {
            return UNKNOWN;
        }
        return answer(cells.copyLinks(h, i, g, j, n));
    }

    public int copied() {
        return cells.cameByCopy;
    }

    public int shelve(int s, int i, int t) {
        if (s < 0 || s >= SHELVES || isUnknownTarget(t)) {
            return UNKNOWN;
        }
        return answer(cells.setShelf(s, i, t));
    }

    public int shelf(int s, int i) {
        if (s < 0 || s >= SHELVES) {
            return UNKNOWN;
        }
        return answer(i < 0 || i >= SHELF_PLACES ? BEYOND : now.shelves[s * SHELF_PLACES + i]);
    }

    // ---- cycles

    public int step(int n) {
        return n < 0 || n > MOST_IN_STEP ? OUTSIDE : stepKeepingBefore(n);
    }

    public int cycle() {
        sweeper.finish();
        return now.tally.givenBack;
    }

    public int phase() {
        return now.marks.underWay ? 1 : 0;
    }

    public int marked(int h) {
        if (!now.heap.wasMade(h)) {
            return UNKNOWN;
        }
        return answer(now.heap.has(h) ? now.marks.ranks[h] : GONE);
    }

    public int moved(int h) {
        if (!now.heap.wasMade(h)) {
            return UNKNOWN;
        }
        return answer(now.heap.has(h) ? now.heap.shifts[h] : GONE);
    }

    public int told(int k, int what) {
        if (what < 0 || what >= TELLING_INTS) {
            return OUTSIDE;
        }
        return k < 0 || k >= TELLINGS || k >= now.tally.tellings ? NONE : now.tally.told[k * TELLING_INTS + what];
    }

    public int about(int what) {
        switch (what) {
            case 0: return now.heap.total;
            case 1: return now.heap.free();
            case 2: return now.heap.made;
            case 3: return now.heap.there;
            case 4: return now.tally.cycles;
            case 5: return now.tally.kept;
            case 6: return now.tally.givenBack;
            case 7: return now.tally.slid;
            case 8: return now.tally.givenBackInAll;
            case 9: return now.tally.tellings;
            case 10: return now.marks.count;
            case 11: return sweeper.howManyOpen();
            case 12: return now.program.count;
            case 13: return now.program.next;
            case 14: return now.program.done;
            case 15: return now.program.findings;
            default: return OUTSIDE;
        }
    }

    public int word(int k) {
        return k < 0 || k >= now.heap.total ? OUTSIDE : now.heap.words[k];
    }

    public int digest() {
        int d = 7;
        for (int k = 0; k < now.heap.top; k++) {
            d = 31 * d + now.heap.words[k];
        }
        for (int r = 0; r < ROOTS; r++) {
            d = 31 * d + now.roots[r];
        }
        return 31 * d + phase();
    }

    // ---- the paper

    public int rows() {
        return now.paper.length;
    }

    public int row(int k) {
        return k < 0 || k >= now.paper.length ? UNKNOWN : now.paper.shown[k];
    }

    public int forge(int k, int v) {
        if (k < 0 || k >= now.paper.length) {
            return UNKNOWN;
        }
        int was = now.paper.shown[k];
        now.paper.shown[k] = v;
        return was;
    }

    public int plain() {
        return now.paper.restore();
    }

    public int check() {
        return now.paper.length == 0 ? NOT : checker.firstWrong(now.paper.shown, now.paper.length);
    }

    // ---- the program

    public int act(int what, int a, int b, int c, int d) {
        if (what < 0 || what > SHELVE) {
            return OUTSIDE;
        }
        if (isNoName(NAMES_A[what], a) || isNoName(NAMES_B[what], b) || isNoName(NAMES_C[what], c)) {
            return UNKNOWN;
        }
        if (what == MAKE && isOutsideOfMaking(b, c) || what == STEP && (a < 0 || a > MOST_IN_STEP)) {
            return OUTSIDE;
        }
        if (now.program.count >= ACTS) {
            return NOT;
        }
        now.program.add(what, a, b, c, d);
        return now.program.count;
    }

    public int clear() {
        int had = now.program.count;
        now.program.count = 0;
        now.program.next = 0;
        return had;
    }

    public int run(int n) {
        if (n < 0 || n > MOST_IN_RUN) {
            return OUTSIDE;
        }
        Program program = now.program;
        if (program.count == 0) {
            return NOT;
        }
        boolean goesOn = true;
        int begun = 0;
        while (begun < n && goesOn) {
            int at = program.next * ACT_INTS;
            int[] acts = program.acts;
            lastFound = findingIn(perform(acts[at], acts[at + 1], acts[at + 2], acts[at + 3], acts[at + 4]));
            program.goBehindAct(lastFound != 0);
            goesOn = lastFound == 0;
            begun++;
        }
        return begun;
    }

    public int found() {
        return lastFound;
    }

    public int register(int r) {
        return r < 0 || r >= REGISTERS ? UNKNOWN : now.program.registers[r];
    }

    // ---- images

    public int image() {
        image.become(now);
        imageKept = true;
        return now.heap.there;
    }

    public int load() {
        if (!imageKept) {
            return NOT;
        }
        now.become(image);
        beforeKept = false;
        return 1;
    }

    public int undoStep() {
        if (!beforeKept) {
            return NOT;
        }
        now.become(before);
        beforeKept = false;
        return 1;
    }

    // ---- what is told

    public int finding() {
        return lastFinding;
    }

    public int trace(int b) {
        return b < 0 || b >= BODIES ? UNKNOWN : bodies[b];
    }

    // ---- helpers of the calls

    private static int findingIn(int answer) {
        return answer <= GONE && answer >= FAIL_OF_NOTHING ? -10 - answer : 0;
    }

    private int answer(int told) {
        lastFinding = findingIn(told);
        return told;
    }

    private boolean isUnknownTarget(int t) {
        return t != NONE && !now.heap.wasMade(t);
    }

    private static boolean isOutsideOfMaking(int kind, int n) {
        return kind < 0 || kind >= KINDS || Heap.isCounted(kind) && n > MOST_COUNT;
    }

    private static boolean isNoName(int names, int v) {
        return names > 0 && (v < 0 || v >= names);
    }

    private void countBodies(int body, int upperBody) {
        bodies[body]++;
        if (upperBody != NONE) {
            bodies[upperBody]++;
        }
    }

    private int stepKeepingBefore(int n) {
        before.become(now);
        beforeKept = true;
        return sweeper.goOn(n);
    }

    private int perform(int what, int a, int b, int c, int d) {
        int[] r = now.program.registers;
        switch (what) {
            case MAKE: return intoRegister(a, cells.makeCell(b, c));
            case LINK: return cells.setLink(r[a], b, r[c]);
            case GET: return intoRegister(c, cells.linkOf(r[a], b));
            case ROOT: return cells.setRoot(a, r[b]);
            case TAKE: return intoRegister(b, now.roots[a]);
            case LOOK: return intoRegister(b, cells.lookAt(r[a]));
            case WEAKEN: return cells.setWeakLink(r[a], r[b]);
            case COPY: return cells.copyLinks(r[a], b, r[c], 0, d);
            case DROP: return intoRegister(a, NONE);
            case STEP: return stepKeepingBefore(a);
            case FAIL_ACT: return a == 0 ? FAIL_OF_NOTHING : FAIL;
            case PUT: return cells.setByte(r[a], b, c);
            case SHELVE: return cells.setShelf(a, b, r[c]);
            default: return FAIL;
        }
    }

    private int intoRegister(int r, int told) {
        if (findingIn(told) == 0) {
            now.program.registers[r] = told;
        }
        return told;
    }

    /** The ints, and where each cell lies in them. Asked about a cell only behind has(). */
    private static final class Heap {
        int total;
        int top;
        int made;
        int there;
        final int[] words = new int[MOST_SIZE];
        final int[] places = new int[HANDLES];
        final int[] shifts = new int[HANDLES];

        void empty(int n) {
            freeFrom(0);
            total = n;
            made = 0;
            there = 0;
            Arrays.fill(places, NONE);
            Arrays.fill(shifts, 0);
        }

        void copyFrom(Heap other) {
            if (top > other.top) {
                Arrays.fill(words, other.top, top, 0);
            }
            System.arraycopy(other.words, 0, words, 0, other.top);
            System.arraycopy(other.places, 0, places, 0, HANDLES);
            System.arraycopy(other.shifts, 0, shifts, 0, HANDLES);
            total = other.total;
            top = other.top;
            made = other.made;
            there = other.there;
        }

        static boolean isCounted(int kind) {
            return kind == ROW || kind == BYTES || kind == TABLE;
        }

        static int intsFor(int kind, int n) {
            switch (kind) {
                case ROW: return 2 + n;
                case TABLE: return 2 + 2 * n;
                case BYTES: return 2 + (n + 3) / 4;
                case WATCHED: return 4;
                default: return 3;
            }
        }

        boolean wasMade(int h) {
            return h >= 0 && h < made;
        }

        boolean has(int h) {
            return h >= 0 && h < made && places[h] >= 0;
        }

        int free() {
            return total - top;
        }

        int kindOf(int h) {
            return words[places[h]] & 7;
        }

        boolean isA(int wanted, int h) {
            return (KINDS_THAT_ARE[wanted] >> (words[places[h]] & 7) & 1) == 1;
        }

        /** How many it counts: of a row, a table or bytes alone. */
        int countOf(int h) {
            return words[places[h] + 1];
        }

        int intsOf(int h) {
            int kind = kindOf(h);
            return intsFor(kind, isCounted(kind) ? countOf(h) : 0);
        }

        int linksOf(int h) {
            switch (words[places[h]] & 7) {
                case PAIR: return 2;
                case BYTES: return 0;
                case ROW:
                case TABLE: return words[places[h] + 1];
                default: return 1;
            }
        }

        int linkPlace(int h) {
            int kind = words[places[h]] & 7;
            return places[h] + (kind == ROW || kind == TABLE ? 2 : 1);
        }

        int weakPlace(int h) {
            return places[h] + 2;
        }

        int numberOf(int h) {
            return words[places[h] + 3];
        }

        int swapNumber(int h, int v) {
            int was = words[places[h] + 3];
            words[places[h] + 3] = v;
            return was;
        }

        int addCell(int kind, int n) {
            int h = made;
            words[top] = h * 8 + kind;
            if (!isCounted(kind)) {
                Arrays.fill(words, top + 1, top + 3, NONE);
            } else {
                words[top + 1] = n;
                if (kind != BYTES) {
                    Arrays.fill(words, top + 2, top + 2 + n, NONE);
                }
            }
            places[h] = top;
            shifts[h] = 0;
            top += intsFor(kind, n);
            made++;
            there++;
            return h;
        }

        void giveBack(int h) {
            places[h] = NONE;
            there--;
        }

        /** Moves a cell down to a place: whether it lay elsewhere. */
        boolean slide(int h, int to, int ints) {
            int from = places[h];
            shifts[h] = from - to;
            if (from == to) {
                return false;
            }
            System.arraycopy(words, from, words, to, ints);
            places[h] = to;
            return true;
        }

        void freeFrom(int newTop) {
            Arrays.fill(words, newTop, top, 0);
            top = newTop;
        }
    }

    /** Which cells are marked, why, and how far they were looked through. */
    private static final class Marks {
        boolean underWay;
        int count;
        int at;
        int nextLink;
        final int[] order = new int[HANDLES];
        final int[] ranks = new int[HANDLES];
        final int[] reasons = new int[HANDLES];
        final int[] firsts = new int[HANDLES];
        final int[] seconds = new int[HANDLES];

        void wipe() {
            underWay = false;
            count = 0;
            at = 0;
            nextLink = 0;
            Arrays.fill(ranks, 0);
        }

        void copyFrom(Marks other) {
            underWay = other.underWay;
            count = other.count;
            at = other.at;
            nextLink = other.nextLink;
            System.arraycopy(other.order, 0, order, 0, HANDLES);
            System.arraycopy(other.ranks, 0, ranks, 0, HANDLES);
            System.arraycopy(other.reasons, 0, reasons, 0, HANDLES);
            System.arraycopy(other.firsts, 0, firsts, 0, HANDLES);
            System.arraycopy(other.seconds, 0, seconds, 0, HANDLES);
        }

        void add(int h, int reason, int first, int second) {
            if (ranks[h] != 0 || count >= HANDLES) {
                return;
            }
            order[count] = h;
            count++;
            ranks[h] = count;
            reasons[h] = reason;
            firsts[h] = first;
            seconds[h] = second;
        }
    }

    /** What cycles did, and the tellings. */
    private static final class Tally {
        int cycles;
        int kept;
        int givenBack;
        int slid;
        int givenBackInAll;
        int tellings;
        final int[] told = new int[TELLINGS * TELLING_INTS];

        void empty() {
            cycles = 0;
            kept = 0;
            givenBack = 0;
            slid = 0;
            givenBackInAll = 0;
            tellings = 0;
        }

        void copyFrom(Tally other) {
            cycles = other.cycles;
            kept = other.kept;
            givenBack = other.givenBack;
            slid = other.slid;
            givenBackInAll = other.givenBackInAll;
            tellings = other.tellings;
            System.arraycopy(other.told, 0, told, 0, told.length);
        }

        void tell(int h, int number) {
            if (tellings < TELLINGS) {
                int at = tellings * TELLING_INTS;
                told[at] = h;
                told[at + 1] = number;
                told[at + 2] = cycles;
            }
            tellings++;
        }
    }

    /** The paper as it is shown (and may be forged), and as it was written. */
    private static final class Paper {
        int length;
        final int[] written = new int[MOST_PAPER];
        final int[] shown = new int[MOST_PAPER];

        void copyFrom(Paper other) {
            length = other.length;
            System.arraycopy(other.written, 0, written, 0, length);
            System.arraycopy(other.shown, 0, shown, 0, length);
        }

        void add(int v) {
            if (length < written.length && length < shown.length) {
                written[length] = v;
                shown[length] = v;
                length++;
            }
        }

        static int sumOf(int[] numbers, int count) {
            int s = 1;
            for (int k = 0; k < count; k++) {
                s = 31 * s + numbers[k];
            }
            return s;
        }

        int restore() {
            int others = 0;
            for (int k = 0; k < length; k++) {
                if (shown[k] != written[k]) {
                    shown[k] = written[k];
                    others++;
                }
            }
            return others;
        }
    }

    /** The acts, which one is next, and the registers. */
    private static final class Program {
        int count;
        int next;
        int done;
        int findings;
        final int[] acts = new int[ACTS * ACT_INTS];
        final int[] registers = new int[REGISTERS];

        void empty() {
            count = 0;
            next = 0;
            done = 0;
            findings = 0;
            Arrays.fill(registers, NONE);
        }

        void copyFrom(Program other) {
            count = other.count;
            next = other.next;
            done = other.done;
            findings = other.findings;
            System.arraycopy(other.acts, 0, acts, 0, acts.length);
            System.arraycopy(other.registers, 0, registers, 0, REGISTERS);
        }

        void add(int what, int a, int b, int c, int d) {
            int at = count * ACT_INTS;
            acts[at] = what;
            acts[at + 1] = a;
            acts[at + 2] = b;
            acts[at + 3] = c;
            acts[at + 4] = d;
            count++;
        }

        /** Counted behind the act, so that what undoStep() has of a STEP does not count it. */
        void goBehindAct(boolean hadFinding) {
            next = next + 1 < count ? next + 1 : 0;
            done++;
            if (hadFinding) {
                findings++;
            }
        }
    }

    /** All that image() and step() keep. */
    private static final class State {
        final Heap heap = new Heap();
        final Marks marks = new Marks();
        final Tally tally = new Tally();
        final Paper paper = new Paper();
        final Program program = new Program();
        final int[] roots = new int[ROOTS];
        final int[] shelves = new int[SHELVES * SHELF_PLACES];

        State() {
            startAnew(FIRST_SIZE);
        }

        void startAnew(int n) {
            heap.empty(n);
            marks.wipe();
            tally.empty();
            paper.length = 0;
            program.empty();
            Arrays.fill(roots, NONE);
            Arrays.fill(shelves, NONE);
        }

        void become(State other) {
            heap.copyFrom(other.heap);
            marks.copyFrom(other.marks);
            tally.copyFrom(other.tally);
            paper.copyFrom(other.paper);
            program.copyFrom(other.program);
            System.arraycopy(other.roots, 0, roots, 0, ROOTS);
            System.arraycopy(other.shelves, 0, shelves, 0, shelves.length);
        }
    }

    /** Cycles: they begin, mark and end here alone. */
    private static final class Sweeper {
        // Far above the links that a heap of 4000 ints can hold.
        private static final int ALL_LINKS = 1000000;

        final State state;
        final Heap heap;
        final Marks marks;
        final int[] bodies;
        final int[] gone = new int[HANDLES];
        int goneCount;
        final int[] seen = new int[HANDLES];
        final int[] reached = new int[HANDLES];
        int reachedCount;

        Sweeper(State state, int[] bodies) {
            this.state = state;
            this.heap = state.heap;
            this.marks = state.marks;
            this.bodies = bodies;
        }

        int goOn(int most) {
            if (!marks.underWay) {
                begin();
            }
            int looked = lookThrough(most);
            if (!goToOpenLink()) {
                end();
            }
            return looked;
        }

        void finish() {
            if (!marks.underWay) {
                begin();
            }
            lookThrough(ALL_LINKS);
            end();
        }

        /** Marks only while a cycle is under way. */
        void mark(int h, int reason, int first, int second) {
            if (marks.underWay && heap.has(h)) {
                marks.add(h, reason, first, second);
            }
        }

        private void begin() {
            marks.wipe();
            marks.underWay = true;
            for (int r = 0; r < ROOTS; r++) {
                mark(state.roots[r], BY_ROOT, r, NONE);
            }
        }

        private int lookThrough(int most) {
            int looked = 0;
            while (looked < most && goToOpenLink()) {
                int h = marks.order[marks.at];
                int i = marks.nextLink;
                mark(heap.words[heap.linkPlace(h) + i], BY_LINK, h, i);
                marks.nextLink++;
                looked++;
            }
            return looked;
        }

        /** Goes on to the next link that was not looked through: whether there is one. */
        private boolean goToOpenLink() {
            while (marks.at < marks.count) {
                if (marks.nextLink < heap.linksOf(marks.order[marks.at])) {
                    return true;
                }
                marks.at++;
                marks.nextLink = 0;
            }
            return false;
        }

        int howManyOpen() {
            int open = 0;
            for (int k = marks.at; k < marks.count; k++) {
                int looked = k == marks.at ? marks.nextLink : 0;
                if (looked < heap.linksOf(marks.order[k])) {
                    open++;
                }
            }
            return open;
        }

        private void end() {
            // Counted first: a telling names the cycle that ends.
            state.tally.cycles++;
            giveBackUnmarked();
            fadeWeakLinks();
            slideKept();
            writePaper();
            marks.wipe();
        }

        private void giveBackUnmarked() {
            goneCount = 0;
            for (int h = 0; h < heap.made; h++) {
                if (heap.has(h) && marks.ranks[h] == 0) {
                    countGivenBack(heap.kindOf(h));
                    heap.giveBack(h);
                    gone[goneCount] = h;
                    goneCount++;
                }
            }
            clearShelves();
            state.tally.kept = heap.there;
            state.tally.givenBack = goneCount;
            state.tally.givenBackInAll += goneCount;
        }

        private void countGivenBack(int kind) {
            bodies[GIVEN_BACK]++;
            if (kind == WATCHED) {
                bodies[GIVEN_BACK_WATCHED]++;
            }
        }

        private void clearShelves() {
            int[] shelves = state.shelves;
            for (int k = 0; k < shelves.length; k++) {
                if (!heap.has(shelves[k])) {
                    shelves[k] = NONE;
                }
            }
        }

        private void fadeWeakLinks() {
            for (int h = 0; h < heap.made; h++) {
                if (heap.has(h) && heap.isA(WEAK, h)) {
                    fadeWeakLink(h);
                }
            }
        }

        private void fadeWeakLink(int h) {
            int at = heap.weakPlace(h);
            int t = heap.words[at];
            if (t == NONE || heap.has(t)) {
                return;
            }
            heap.words[at] = NONE;
            bodies[FADED]++;
            if (heap.isA(WATCHED, h)) {
                bodies[FADED_WATCHED]++;
                state.tally.tell(h, heap.numberOf(h));
            }
        }

        /** Cells are made behind all others and never pass one another: their handles rise as their places do. */
        private void slideKept() {
            int to = 0;
            state.tally.slid = 0;
            for (int h = 0; h < heap.made; h++) {
                if (heap.has(h)) {
                    int ints = heap.intsOf(h);
                    if (heap.slide(h, to, ints)) {
                        state.tally.slid++;
                        bodies[SLID]++;
                    }
                    to += ints;
                }
            }
            heap.freeFrom(to);
        }

        private void writePaper() {
            Paper paper = state.paper;
            paper.length = 0;
            for (int r = 0; r < ROOTS; r++) {
                paper.add(state.roots[r]);
            }
            paper.add(heap.there);
            for (int h = 0; h < heap.made; h++) {
                if (heap.has(h)) {
                    writeKept(h);
                }
            }
            paper.add(goneCount);
            for (int k = 0; k < goneCount; k++) {
                paper.add(gone[k]);
            }
            paper.add(Paper.sumOf(paper.written, paper.length));
        }

        private void writeKept(int h) {
            Paper paper = state.paper;
            paper.add(h);
            paper.add(marks.reasons[h]);
            paper.add(marks.firsts[h]);
            paper.add(marks.seconds[h]);
            paper.add(marks.ranks[h]);
            int links = heap.linksOf(h);
            int at = heap.linkPlace(h);
            paper.add(links);
            for (int i = 0; i < links; i++) {
                paper.add(heap.words[at + i]);
            }
        }

        /** The marks of a cycle under way tell more than what roots reach now, so this looks anew. */
        int reachedInts() {
            Arrays.fill(seen, 0);
            reachedCount = 0;
            for (int r = 0; r < ROOTS; r++) {
                reach(state.roots[r]);
            }
            int ints = 0;
            for (int k = 0; k < reachedCount; k++) {
                int h = reached[k];
                int links = heap.linksOf(h);
                int at = heap.linkPlace(h);
                for (int i = 0; i < links; i++) {
                    reach(heap.words[at + i]);
                }
                ints += heap.intsOf(h);
            }
            return ints;
        }

        private void reach(int h) {
            if (heap.has(h) && seen[h] == 0) {
                seen[h] = 1;
                reached[reachedCount] = h;
                reachedCount++;
            }
        }
    }

    /** What calls and acts do to cells alike: an answer, or a finding's. Handles here were made, or are NONE. */
    private static final class Cells {
        final State state;
        final Heap heap;
        final Sweeper sweeper;
        int cameByCopy;

        Cells(State state, Sweeper sweeper) {
            this.state = state;
            this.heap = state.heap;
            this.sweeper = sweeper;
        }

        int makeCell(int kind, int n) {
            int count = Heap.isCounted(kind) ? n : 0;
            if (count < 0) {
                return BELOW_ZERO;
            }
            int ints = Heap.intsFor(kind, count);
            if (heap.made >= HANDLES || ints > heap.free() && ints > heap.total - sweeper.reachedInts()) {
                return ROOM;
            }
            // A cycle that was under way may keep what roots reach no more: then a whole one follows.
            for (int k = 0; k < 2 && ints > heap.free(); k++) {
                sweeper.finish();
            }
            if (ints > heap.free()) {
                return ROOM;
            }
            int h = heap.addCell(kind, count);
            sweeper.mark(h, MADE, NONE, NONE);
            return h;
        }

        /** The finding of a cell that must be of a kind; 0: it is. */
        int wrongAs(int wanted, int h) {
            if (!heap.has(h)) {
                return GONE;
            }
            return heap.isA(wanted, h) ? 0 : WRONG_KIND;
        }

        private int wrongForLinks(int h) {
            if (!heap.has(h)) {
                return GONE;
            }
            return heap.isA(BYTES, h) ? WRONG_KIND : 0;
        }

        private boolean isGoneTarget(int t) {
            return t != NONE && !heap.has(t);
        }

        int setLink(int h, int i, int t) {
            int wrong = wrongForLinks(h);
            if (wrong != 0) {
                return wrong;
            }
            if (isGoneTarget(t)) {
                return GONE;
            }
            if (i < 0 || i >= heap.linksOf(h)) {
                return BEYOND;
            }
            changeLink(h, i, t);
            return 1;
        }

        private void changeLink(int h, int i, int t) {
            int at = heap.linkPlace(h) + i;
            sweeper.mark(heap.words[at], OVERWRITTEN, h, i);
            heap.words[at] = t;
            sweeper.mark(t, SET, h, i);
        }

        int linkOf(int h, int i) {
            int wrong = wrongForLinks(h);
            if (wrong != 0) {
                return wrong;
            }
            return i < 0 || i >= heap.linksOf(h) ? BEYOND : heap.words[heap.linkPlace(h) + i];
        }

        int setWeakLink(int h, int t) {
            int wrong = wrongAs(WEAK, h);
            if (wrong != 0) {
                return wrong;
            }
            if (isGoneTarget(t)) {
                return GONE;
            }
            heap.words[heap.weakPlace(h)] = t;
            return 1;
        }

        int lookAt(int h) {
            int wrong = wrongAs(WEAK, h);
            if (wrong != 0) {
                return wrong;
            }
            int t = heap.words[heap.weakPlace(h)];
            sweeper.mark(t, LOOKED_AT, h, 0);
            return t;
        }

        int byteOf(int h, int i) {
            int wrong = wrongAs(BYTES, h);
            if (wrong != 0) {
                return wrong;
            }
            if (i < 0 || i >= heap.countOf(h)) {
                return BEYOND;
            }
            return heap.words[heap.places[h] + 2 + i / 4] >>> 8 * (i % 4) & 255;
        }

        int setByte(int h, int i, int v) {
            int was = byteOf(h, i);
            if (was >= 0) {
                int at = heap.places[h] + 2 + i / 4;
                int shift = 8 * (i % 4);
                heap.words[at] = heap.words[at] & ~(255 << shift) | (v & 255) << shift;
            }
            return was;
        }

        int setKey(int h, int i, int v) {
            int wrong = wrongAs(TABLE, h);
            if (wrong != 0) {
                return wrong;
            }
            int n = heap.countOf(h);
            if (i < 0 || i >= n) {
                return BEYOND;
            }
            heap.words[heap.places[h] + 2 + n + i] = v;
            return 1;
        }

        int placeOfKey(int h, int v) {
            int wrong = wrongAs(TABLE, h);
            if (wrong != 0) {
                return wrong;
            }
            int n = heap.countOf(h);
            int at = heap.places[h] + 2 + n;
            for (int i = 0; i < n; i++) {
                if (heap.words[at + i] == v) {
                    return i;
                }
            }
            return NONE;
        }

        int setRoot(int r, int t) {
            if (isGoneTarget(t)) {
                return GONE;
            }
            int had = state.roots[r];
            state.roots[r] = t;
            sweeper.mark(t, SET, NONE, r);
            return had;
        }

        int copyLinks(int h, int i, int g, int j, int n) {
            cameByCopy = 0;
            if (!heap.has(h) || !heap.has(g)) {
                return GONE;
            }
            if (!heap.isA(ROW, h) || !heap.isA(ROW, g)) {
                return WRONG_KIND;
            }
            if (n < 0) {
                return BELOW_ZERO;
            }
            int here = heap.linksOf(h);
            int there = heap.linksOf(g);
            for (int k = 0; k < n; k++) {
                // k is taken from the bound, not added to the place, which may be as high as an int goes.
                if (i < 0 || i >= here - k || j < 0 || j >= there - k) {
                    return BEYOND;
                }
                changeLink(g, j + k, heap.words[heap.linkPlace(h) + i + k]);
                cameByCopy++;
            }
            return n;
        }

        int setShelf(int s, int i, int t) {
            if (isGoneTarget(t)) {
                return GONE;
            }
            if (i < 0 || i >= SHELF_PLACES) {
                return BEYOND;
            }
            // A shelf bears the number of the kind that it takes.
            if (t != NONE && !heap.isA(s, t)) {
                return STORE;
            }
            state.shelves[s * SHELF_PLACES + i] = t;
            return 1;
        }
    }

    /** Checks a paper and knows nothing but its numbers. */
    private static final class Checker {
        private static final int KEPT_INTS = 6, TO_REASON = 1, TO_FIRST = 2, TO_SECOND = 3, TO_RANK = 4, TO_LINKS = 5;

        int[] numbers = {};
        int length;
        int kept;
        final int[] firstAt = new int[HANDLES];
        final int[] rankSeen = new int[HANDLES + 1];

        int firstWrong(int[] paper, int count) {
            numbers = paper;
            length = count;
            int wrong = firstWrongInForm();
            if (wrong != NONE) {
                return wrong;
            }
            noteKept();
            wrong = firstWrongInMeaning();
            if (wrong != NONE) {
                return wrong;
            }
            return numbers[length - 1] == Paper.sumOf(numbers, length - 1) ? NONE : length - 1;
        }

        private static boolean isIn(int v, int least, int most) {
            return v >= least && v <= most;
        }

        private int firstWrongInForm() {
            if (length <= ROOTS) {
                return length;
            }
            kept = numbers[ROOTS];
            if (!isIn(kept, 0, HANDLES)) {
                return ROOTS;
            }
            int at = ROOTS + 1;
            for (int k = 0; k < kept; k++) {
                if (at + TO_LINKS >= length) {
                    return length;
                }
                if (!isIn(numbers[at + TO_LINKS], 0, MOST_COUNT)) {
                    return at + TO_LINKS;
                }
                at += KEPT_INTS + numbers[at + TO_LINKS];
            }
            if (at >= length) {
                return length;
            }
            return isIn(numbers[at], 0, HANDLES) && length == at + numbers[at] + 2 ? NONE : at;
        }

        private void noteKept() {
            Arrays.fill(firstAt, NONE);
            int at = ROOTS + 1;
            for (int k = 0; k < kept; k++) {
                int h = numbers[at];
                if (isIn(h, 0, HANDLES - 1) && firstAt[h] == NONE) {
                    firstAt[h] = at;
                }
                at += KEPT_INTS + numbers[at + TO_LINKS];
            }
        }

        private boolean isKept(int h) {
            return isIn(h, 0, HANDLES - 1) && firstAt[h] != NONE;
        }

        private int firstWrongLink(int from, int behind) {
            for (int k = from; k < behind; k++) {
                if (numbers[k] != NONE && !isKept(numbers[k])) {
                    return k;
                }
            }
            return NONE;
        }

        private int firstWrongInMeaning() {
            int wrong = firstWrongLink(0, ROOTS);
            Arrays.fill(rankSeen, 0);
            int at = ROOTS + 1;
            for (int k = 0; k < kept && wrong == NONE; k++) {
                wrong = firstWrongOfKept(at);
                at += KEPT_INTS + numbers[at + TO_LINKS];
            }
            return wrong != NONE ? wrong : firstWrongGivenBack(at);
        }

        private int firstWrongOfKept(int at) {
            int h = numbers[at];
            if (!isKept(h) || firstAt[h] != at) {
                return at;
            }
            int wrong = firstWrongOfReason(at);
            if (wrong != NONE) {
                return wrong;
            }
            if (isRankWrong(at)) {
                return at + TO_RANK;
            }
            rankSeen[numbers[at + TO_RANK]] = 1;
            return firstWrongLink(at + KEPT_INTS, at + KEPT_INTS + numbers[at + TO_LINKS]);
        }

        private int firstWrongOfReason(int at) {
            int reason = numbers[at + TO_REASON];
            if (!isIn(reason, BY_ROOT, MADE)) {
                return at + TO_REASON;
            }
            int first = numbers[at + TO_FIRST];
            if (!isFirstRight(reason, first)) {
                return at + TO_FIRST;
            }
            return isSecondRight(reason, first, numbers[at + TO_SECOND]) ? NONE : at + TO_SECOND;
        }

        private boolean isFirstRight(int reason, int first) {
            switch (reason) {
                case BY_ROOT: return isIn(first, 0, ROOTS - 1);
                case BY_LINK: return isKept(first);
                case SET: return isIn(first, NONE, HANDLES - 1);
                case MADE: return first == NONE;
                default: return isIn(first, 0, HANDLES - 1);
            }
        }

        private static boolean isSecondRight(int reason, int first, int second) {
            switch (reason) {
                case BY_ROOT:
                case MADE: return second == NONE;
                case LOOKED_AT: return second == 0;
                default: return isIn(second, 0, first == NONE ? ROOTS - 1 : MOST_COUNT - 1);
            }
        }

        private boolean isRankWrong(int at) {
            int rank = numbers[at + TO_RANK];
            if (!isIn(rank, 1, kept) || rankSeen[rank] != 0) {
                return true;
            }
            return numbers[at + TO_REASON] == BY_LINK && rank <= numbers[firstAt[numbers[at + TO_FIRST]] + TO_RANK];
        }

        private int firstWrongGivenBack(int at) {
            int last = NONE;
            for (int k = at + 1; k < length - 1; k++) {
                int h = numbers[k];
                if (h <= last || h >= HANDLES || isKept(h)) {
                    return k;
                }
                last = h;
            }
            return NONE;
        }
    }
}
