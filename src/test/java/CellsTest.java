/** Promises 1 to 22: a new object, size() and the cells. */
public final class CellsTest {
    private static final int NONE = SweepKeeper.NONE, UNKNOWN = SweepKeeper.UNKNOWN, OUTSIDE = SweepKeeper.OUTSIDE;
    private static final int NOT = SweepKeeper.NOT;
    private static final int GONE = -11, BEYOND = -12, KIND = -13, SIZE = -14, STORE = -15, ROOM = -16;
    private static final int MIN = Integer.MIN_VALUE, MAX = Integer.MAX_VALUE;

    public static void main(String[] args) {
        newObject();
        size();
        sizeEndsAll();
        sizeEndsCyclesAndRuns();
        make();
        makeLaysOut();
        makeRoom();
        makeRoomReached();
        makeRoomUnderWay();
        make500();
        kindAndPlace();
        measure();
        links();
        link();
        linkFindingsInOrder();
        get();
        weaken();
        look();
        number();
        put();
        byteAt();
        key();
        find();
        root();
        rootOf();
        copy();
        copyEdges();
        copied();
        shelve();
        shelf();
        Due.end();
    }

    /** Cells 0 PAIR, 1 ROW of 3, 2 BYTES of 5, 3 WEAK, 4 WATCHED, 5 TABLE of 2; none is kept by a root. */
    private static SweepKeeper sixKinds() {
        SweepKeeper x = new SweepKeeper();
        x.make(0, 0);
        x.make(1, 3);
        x.make(2, 5);
        x.make(3, 0);
        x.make(4, 0);
        x.make(5, 2);
        return x;
    }

    /** As sixKinds(), but 6 was a PAIR and is gone. */
    private static SweepKeeper sixAndOneGone() {
        SweepKeeper x = sixKinds();
        x.make(0, 0);
        for (int h = 0; h < 6; h++) {
            x.root(h, h);
        }
        Due.is("the seventh is given back", 1, x.cycle());
        for (int h = 0; h < 6; h++) {
            x.root(h, NONE);
        }
        return x;
    }

    private static void newObject() {
        SweepKeeper x = new SweepKeeper();
        Due.is("new: N", 256, x.about(0));
        Due.is("new: free", 256, x.about(1));
        for (int what = 2; what < 16; what++) {
            Due.is("new: about " + what, 0, x.about(what));
        }
        for (int k = 0; k < 256; k++) {
            Due.is("new: word " + k, 0, x.word(k));
        }
        for (int r = 0; r < 24; r++) {
            Due.is("new: root " + r, NONE, x.rootOf(r));
        }
        for (int s = 0; s < 32; s++) {
            Due.is("new: shelf", NONE, x.shelf(s / 8, s % 8));
        }
        for (int r = 0; r < 8; r++) {
            Due.is("new: register " + r, NONE, x.register(r));
        }
        for (int b = 0; b < 14; b++) {
            Due.is("new: trace " + b, 0, x.trace(b));
        }
        Due.is("new: phase", 0, x.phase());
        Due.is("new: rows", 0, x.rows());
        Due.is("new: finding", 0, x.finding());
        Due.is("new: copied", 0, x.copied());
        Due.is("new: found", 0, x.found());
        Due.is("new: no image", NOT, x.load());
        Due.is("new: no step", NOT, x.undoStep());
        Due.is("new: first handle", 0, x.make(0, 0));
    }

    private static void size() {
        SweepKeeper x = new SweepKeeper();
        Due.is("size: 16", 1, x.size(16));
        Due.is("size: N", 16, x.about(0));
        Due.is("size: 4000", 1, x.size(4000));
        Due.is("size: N", 4000, x.about(0));
        Due.is("size: last word", 0, x.word(3999));
        int[] outside = {15, 4001, 0, -1, MIN, MAX};
        for (int n : outside) {
            Due.is("size: " + n, OUTSIDE, x.size(n));
        }
        Due.is("size: refused changes nothing", 4000, x.about(0));
        for (int k = 0; k < 6; k++) {
            x.make(5, 300);
        }
        Due.is("size: full", 388, x.about(1));
        Due.is("size: smaller", 1, x.size(20));
        Due.is("size: smaller free", 20, x.about(1));
        for (int k = 0; k < 20; k++) {
            Due.is("size: smaller word", 0, x.word(k));
        }
        Due.is("size: beyond the smaller", OUTSIDE, x.word(20));
    }

    private static void sizeEndsAll() {
        SweepKeeper x = sixAndOneGone();
        x.measure(4);
        x.shelve(0, 0, 0);
        x.copy(1, 0, 1, 1, 1);
        x.act(10, 1, 0, 0, 0);
        x.run(1);
        x.step(0);
        x.root(0, 0);
        x.step(0);
        x.image();
        x.get(0, 7);
        Due.is("size again", 1, x.size(256));
        Due.is("size: finding", 0, x.finding());
        Due.is("size: found", 0, x.found());
        Due.is("size: copied", 0, x.copied());
        Due.is("size: image", NOT, x.load());
        Due.is("size: step", NOT, x.undoStep());
        Due.is("size: phase", 0, x.phase());
        Due.is("size: rows", 0, x.rows());
        Due.is("size: root", NONE, x.rootOf(0));
        Due.is("size: shelf", NONE, x.shelf(0, 0));
        Due.is("size: handles", UNKNOWN, x.kind(0));
        for (int what = 2; what < 16; what++) {
            Due.is("size: about " + what, 0, x.about(what));
        }
        Due.is("size: trace stays", 1, x.trace(1));
        Due.is("size: trace of what was given back stays", 7, x.trace(11));
    }

    private static void sizeEndsCyclesAndRuns() {
        SweepKeeper x = new SweepKeeper();
        x.make(4, 0);
        x.make(0, 0);
        x.make(0, 0);
        x.root(0, 0);
        x.root(1, 2);
        x.weaken(0, 1);
        x.cycle();
        Due.is("size: told", 1, x.about(9));
        x.act(0, 7, 0, 0, 0);
        x.act(10, 0, 0, 0, 0);
        x.act(8, 0, 0, 0, 0);
        x.run(9);
        x.step(2);
        Due.is("size: one link of the second was looked through", 3, x.about(10) + x.about(11));
        x.size(256);
        for (int what = 2; what < 16; what++) {
            Due.is("size: about " + what, 0, x.about(what));
        }
        Due.is("size: register", NONE, x.register(7));
        Due.is("size: telling", NONE, x.told(0, 0));
        x.make(0, 0);
        x.root(0, 0);
        Due.is("size: a new one is not marked", 0, x.marked(0));
        Due.is("size: nor moved", 0, x.moved(0));
        Due.is("size: both links are looked through", 2, x.step(9));
        x.act(0, 0, 0, 0, 0);
        x.act(10, 0, 0, 0, 0);
        Due.is("size: the first act is next", 2, x.run(9));
    }

    private static void make() {
        SweepKeeper x = new SweepKeeper();
        Due.is("make: kind -1", OUTSIDE, x.make(-1, 0));
        Due.is("make: kind 6", OUTSIDE, x.make(6, 0));
        Due.is("make: kind", OUTSIDE, x.make(MAX, -1));
        int[] counted = {1, 2, 5};
        for (int kind : counted) {
            Due.is("make: 301 of " + kind, OUTSIDE, x.make(kind, 301));
            Due.is("make: -1 of " + kind, SIZE, x.make(kind, -1));
            Due.is("make: least of " + kind, SIZE, x.make(kind, MIN));
        }
        Due.is("make: refused uses no handle", 0, x.about(2));
        Due.is("make: pair looks at no n", 0, x.make(0, -5));
        Due.is("make: weak looks at no n", 1, x.make(3, 301));
        Due.is("make: watched looks at no n", 2, x.make(4, MAX));
        Due.is("make: row of none", 3, x.make(1, 0));
        Due.is("make: bytes of none", 4, x.make(2, 0));
        Due.is("make: table of none", 5, x.make(5, 0));
        Due.is("make: finding of none", 0, x.finding());
        Due.is("make: cells", 6, x.about(3));
        x.size(4000);
        Due.is("make: row of 300", 0, x.make(1, 300));
        Due.is("make: bytes of 300", 1, x.make(2, 300));
        Due.is("make: table of 300", 2, x.make(5, 300));
        Due.is("make: used", 302 + 77 + 602, x.place(2) + x.measure(2));
    }

    private static void makeLaysOut() {
        SweepKeeper x = sixKinds();
        x.put(2, 4, 7);
        x.put(2, 1, -1);
        x.number(4, -12);
        x.key(5, 1, 99);
        x.link(0, 1, 5);
        x.weaken(3, 2);
        int[] due = {0, NONE, 5, 9, 3, NONE, NONE, NONE, 18, 5, 255 << 8, 7, 27, NONE, 2,
            36, NONE, NONE, -12, 45, 2, NONE, NONE, 0, 99};
        for (int k = 0; k < due.length; k++) {
            Due.is("layout: word " + k, due[k], x.word(k));
        }
        Due.is("layout: free", 256 - due.length, x.about(1));
    }

    private static void makeRoom() {
        SweepKeeper x = new SweepKeeper();
        x.size(16);
        Due.is("room: just N", 0, x.make(1, 14));
        Due.is("room: more than N", ROOM, x.make(1, 15));
        Due.is("room: finding", 6, x.finding());
        Due.is("room: no cycle then", 0, x.about(4));
        x.root(0, 0);
        Due.is("room: kept ones fill it", ROOM, x.make(2, 0));
        Due.is("room: nothing changed", 0, x.about(4));
        x.root(0, NONE);
        Due.is("room: a cycle", 1, x.make(1, 14));
        Due.is("room: one cycle", 1, x.about(4));
        Due.is("room: the first is gone", GONE, x.kind(0));
        Due.is("room: not marked", 0, x.marked(1));
        x.size(16);
        x.make(3, 0);
        x.root(0, 0);
        x.make(1, 3);
        x.weaken(0, 1);
        Due.is("room: a weak link keeps nothing", 2, x.make(1, 11));
        Due.is("room: it faded", NONE, x.look(0));
        Due.is("room: just full", 0, x.about(1));
        Due.is("room: SIZE is named first", SIZE, x.make(1, -1));
    }

    private static void makeRoomReached() {
        SweepKeeper x = new SweepKeeper();
        x.size(16);
        x.make(0, 0);
        x.make(1, 2);
        x.make(0, 0);
        x.make(0, 0);
        x.root(0, 0);
        x.link(0, 0, 1);
        x.link(0, 1, 2);
        x.link(1, 1, 2);
        x.link(2, 0, 0);
        Due.is("reached: by links, one more than N", ROOM, x.make(1, 5));
        Due.is("reached: nothing is given back", 4, x.about(3));
        Due.is("reached: each once, just N", 4, x.make(1, 4));
        Due.is("reached: full", 0, x.about(1));
        x.size(16);
        x.make(1, 14);
        x.root(0, 0);
        Due.is("reached: no room", ROOM, x.make(2, 0));
        x.size(16);
        x.make(1, 12);
        Due.is("reached: just the free ones", 1, x.make(2, 0));
        Due.is("reached: no cycle", 0, x.about(4));
    }

    private static void makeRoomUnderWay() {
        SweepKeeper x = new SweepKeeper();
        x.size(16);
        x.make(1, 4);
        x.make(1, 4);
        x.root(0, 0);
        x.root(1, 1);
        x.step(0);
        x.root(0, NONE);
        // The cycle under way marked both; only a whole one gives 0 back.
        Due.is("under way: made", 2, x.make(1, 5));
        Due.is("under way: two cycles", 2, x.about(4));
        Due.is("under way: given back", GONE, x.place(0));
        Due.is("under way: over", 0, x.phase());
        Due.is("under way: not marked", 0, x.marked(2));
        x.size(16);
        x.make(1, 4);
        x.make(1, 4);
        x.root(1, 1);
        x.step(0);
        Due.is("under way: its end is enough", 2, x.make(1, 5));
        Due.is("under way: one cycle", 1, x.about(4));
        x.step(0);
        x.root(0, 2);
        Due.is("under way: no room", ROOM, x.make(1, 5));
        Due.is("under way: goes on", 1, x.phase());
        Due.is("under way: marked as made", 3, x.make(2, 0) == 3 ? x.marked(3) : NONE);
    }

    private static void make500() {
        SweepKeeper x = new SweepKeeper();
        x.act(0, 0, 0, 0, 0);
        x.run(200);
        x.run(200);
        x.run(99);
        Due.is("500: the last", 499, x.make(0, 0));
        Due.is("500: one more", ROOM, x.make(0, 0));
        Due.is("500: SIZE ahead of it", SIZE, x.make(1, -1));
        Due.is("500: OUTSIDE ahead of it", OUTSIDE, x.make(1, 301));
        x.cycle();
        Due.is("500: given back ones count", ROOM, x.make(0, 0));
        Due.is("500: made", 500, x.about(2));
        Due.is("500: none there", 0, x.about(3));
        Due.is("500: 499 is known", GONE, x.kind(499));
        Due.is("500: 500 is not", UNKNOWN, x.kind(500));
    }

    private static void kindAndPlace() {
        SweepKeeper x = sixAndOneGone();
        int[] places = {0, 3, 8, 12, 15, 19};
        for (int h = 0; h < 6; h++) {
            Due.is("kind of " + h, h, x.kind(h));
            Due.is("place of " + h, places[h], x.place(h));
        }
        int[] unknown = {NONE, 7, -2, MIN, MAX};
        for (int h : unknown) {
            Due.is("kind: " + h, UNKNOWN, x.kind(h));
            Due.is("place: " + h, UNKNOWN, x.place(h));
        }
        Due.is("kind: gone", GONE, x.kind(6));
        Due.is("kind: finding", 1, x.finding());
        Due.is("kind: there", 0, x.kind(0));
        Due.is("kind: no finding", 0, x.finding());
        Due.is("place: gone", GONE, x.place(6));
        Due.is("place: finding", 1, x.finding());
    }

    private static void measure() {
        SweepKeeper x = sixAndOneGone();
        int[] sizes = {3, 5, 4, 3, 4, 6};
        for (int h = 0; h < 6; h++) {
            Due.is("measure " + h, sizes[h], x.measure(h));
        }
        int[] bodies = {3, 1, 2, 1, 1, 0, 0, 0, 0};
        for (int b = 0; b < 9; b++) {
            Due.is("measure: trace " + b, bodies[b], x.trace(b));
        }
        Due.is("measure: gone", GONE, x.measure(6));
        Due.is("measure: finding", 1, x.finding());
        Due.is("measure: unknown", UNKNOWN, x.measure(7));
        Due.is("measure: NONE", UNKNOWN, x.measure(NONE));
        Due.is("measure: trace of these", 3, x.trace(0));
        int[] ints = {2, 3, 3, 3, 3, 4};
        for (int n = 0; n < 6; n++) {
            Due.is("measure: bytes " + n, ints[n], x.measure(x.make(2, n)));
        }
    }

    private static void links() {
        SweepKeeper x = sixAndOneGone();
        int[] counts = {2, 3, 0, 1, 1, 2};
        for (int h = 0; h < 6; h++) {
            Due.is("links " + h, counts[h], x.links(h));
        }
        int[] bodies = {0, 0, 0, 0, 0, 3, 2, 2, 1};
        for (int b = 0; b < 9; b++) {
            Due.is("links: trace " + b, bodies[b], x.trace(b));
        }
        Due.is("links: gone", GONE, x.links(6));
        Due.is("links: finding", 1, x.finding());
        Due.is("links: unknown", UNKNOWN, x.links(7));
        Due.is("links: NONE", UNKNOWN, x.links(NONE));
        Due.is("links: trace of these", 3, x.trace(5));
    }

    private static void link() {
        SweepKeeper x = sixAndOneGone();
        int[] counts = {2, 3, 0, 1, 1, 2};
        for (int h = 0; h < 6; h++) {
            for (int i = 0; i < counts[h]; i++) {
                Due.is("link " + h + " " + i, 1, x.link(h, i, (h + i) % 6));
                Due.is("link: finding", 0, x.finding());
            }
            int beyond = h == 2 ? KIND : BEYOND;
            Due.is("link: behind the last of " + h, beyond, x.link(h, counts[h], 0));
            Due.is("link: below the first of " + h, beyond, x.link(h, -1, 0));
            Due.is("link: far", beyond, x.link(h, MAX, 0));
        }
        for (int h = 0; h < 6; h++) {
            for (int i = 0; i < counts[h]; i++) {
                Due.is("link: is " + h + " " + i, (h + i) % 6, x.get(h, i));
            }
        }
        Due.is("link: NONE", 1, x.link(0, 0, NONE));
        Due.is("link: was NONE", NONE, x.get(0, 0));
        Due.is("link: unknown", UNKNOWN, x.link(7, 0, 0));
        Due.is("link: h NONE", UNKNOWN, x.link(NONE, 0, 0));
        Due.is("link: t unknown", UNKNOWN, x.link(0, 0, 7));
        Due.is("link: t -2", UNKNOWN, x.link(0, 0, -2));
    }

    private static void linkFindingsInOrder() {
        SweepKeeper x = sixAndOneGone();
        x.link(0, 0, 1);
        x.get(0, 0);
        Due.is("link: unknown is ahead of gone", UNKNOWN, x.link(6, 0, 7));
        Due.is("link: refused leaves finding()", 0, x.finding());
        Due.is("link: gone", GONE, x.link(6, 9, 6));
        Due.is("link: kind ahead of t gone", KIND, x.link(2, 0, 6));
        Due.is("link: kind", 3, x.finding());
        Due.is("link: t gone ahead of beyond", GONE, x.link(0, 2, 6));
        Due.is("link: t gone", GONE, x.link(0, 0, 6));
        Due.is("link: gone", 1, x.finding());
        Due.is("link: nothing changed", 1, x.get(0, 0));
    }

    private static void get() {
        SweepKeeper x = sixAndOneGone();
        x.link(1, 2, 4);
        x.link(5, 1, 3);
        x.weaken(3, 0);
        Due.is("get: row", 4, x.get(1, 2));
        Due.is("get: table", 3, x.get(5, 1));
        Due.is("get: a weak link is none", NONE, x.get(3, 0));
        Due.is("get: bytes", KIND, x.get(2, 9));
        Due.is("get: finding", 3, x.finding());
        Due.is("get: weak 1", BEYOND, x.get(3, 1));
        Due.is("get: pair 2", BEYOND, x.get(0, 2));
        Due.is("get: -1", BEYOND, x.get(0, -1));
        Due.is("get: least", BEYOND, x.get(1, MIN));
        Due.is("get: finding", 2, x.finding());
        Due.is("get: gone", GONE, x.get(6, 9));
        Due.is("get: unknown", UNKNOWN, x.get(7, 0));
        Due.is("get: NONE", UNKNOWN, x.get(NONE, 0));
    }

    private static void weaken() {
        SweepKeeper x = sixAndOneGone();
        Due.is("weaken: weak", 1, x.weaken(3, 0));
        Due.is("weaken: watched", 1, x.weaken(4, 4));
        Due.is("weaken: look", 0, x.look(3));
        Due.is("weaken: look", 4, x.look(4));
        Due.is("weaken: NONE", 1, x.weaken(4, NONE));
        Due.is("weaken: look", NONE, x.look(4));
        int[] others = {0, 1, 2, 5};
        for (int h : others) {
            Due.is("weaken: kind " + h, KIND, x.weaken(h, 6));
        }
        Due.is("weaken: finding", 3, x.finding());
        Due.is("weaken: t gone", GONE, x.weaken(3, 6));
        Due.is("weaken: finding", 1, x.finding());
        Due.is("weaken: nothing changed", 0, x.look(3));
        Due.is("weaken: gone", GONE, x.weaken(6, 0));
        Due.is("weaken: unknown", UNKNOWN, x.weaken(7, 0));
        Due.is("weaken: t unknown", UNKNOWN, x.weaken(6, 7));
        Due.is("weaken: NONE", UNKNOWN, x.weaken(NONE, 0));
    }

    private static void look() {
        SweepKeeper x = sixAndOneGone();
        Due.is("look: NONE at first", NONE, x.look(3));
        Due.is("look: finding", 0, x.finding());
        int[] others = {0, 1, 2, 5};
        for (int h : others) {
            Due.is("look: kind " + h, KIND, x.look(h));
        }
        Due.is("look: finding", 3, x.finding());
        Due.is("look: gone", GONE, x.look(6));
        Due.is("look: unknown", UNKNOWN, x.look(7));
        Due.is("look: NONE", UNKNOWN, x.look(NONE));
    }

    private static void number() {
        SweepKeeper x = sixAndOneGone();
        Due.is("number: 0 at first", 0, x.number(4, -13));
        Due.is("number: may look like a finding", -13, x.number(4, -101));
        Due.is("number: and had none", 0, x.finding());
        Due.is("number: may look like a refusal", -101, x.number(4, MIN));
        Due.is("number: least", MIN, x.number(4, 5));
        for (int h = 0; h < 6; h++) {
            if (h != 4) {
                Due.is("number: kind " + h, KIND, x.number(h, 1));
            }
        }
        Due.is("number: finding", 3, x.finding());
        Due.is("number: gone", GONE, x.number(6, 1));
        Due.is("number: finding", 1, x.finding());
        Due.is("number: unknown", UNKNOWN, x.number(7, 1));
        Due.is("number: NONE", UNKNOWN, x.number(NONE, 1));
        Due.is("number: stays", 5, x.number(4, 0));
    }

    private static void put() {
        SweepKeeper x = sixAndOneGone();
        for (int i = 0; i < 5; i++) {
            Due.is("put " + i, 0, x.put(2, i, 256 + 250 + i));
        }
        for (int i = 0; i < 5; i++) {
            Due.is("put: was " + i, 250 + i, x.put(2, i, -1 - i));
        }
        Due.is("put: lowest bits", 251, x.put(2, 4, 0));
        Due.is("put: neighbours stay", 252, x.byteAt(2, 3));
        Due.is("put: behind", BEYOND, x.put(2, 5, 1));
        Due.is("put: below", BEYOND, x.put(2, -1, 1));
        Due.is("put: far", BEYOND, x.put(2, MIN, 1));
        Due.is("put: finding", 2, x.finding());
        Due.is("put: kind", KIND, x.put(1, 9, 1));
        Due.is("put: gone", GONE, x.put(6, 0, 1));
        Due.is("put: unknown", UNKNOWN, x.put(7, 0, 1));
        Due.is("put: NONE", UNKNOWN, x.put(NONE, 0, 1));
        Due.is("put: none there", BEYOND, x.put(x.make(2, 0), 0, 1));
    }

    private static void byteAt() {
        SweepKeeper x = sixAndOneGone();
        x.put(2, 0, 1);
        x.put(2, 3, 255);
        int[] due = {1, 0, 0, 255, 0};
        for (int i = 0; i < 5; i++) {
            Due.is("byteAt " + i, due[i], x.byteAt(2, i));
        }
        Due.is("byteAt: 5", BEYOND, x.byteAt(2, 5));
        Due.is("byteAt: -1", BEYOND, x.byteAt(2, -1));
        Due.is("byteAt: most", BEYOND, x.byteAt(2, MAX));
        Due.is("byteAt: finding", 2, x.finding());
        Due.is("byteAt: kind", KIND, x.byteAt(5, 0));
        Due.is("byteAt: gone", GONE, x.byteAt(6, 0));
        Due.is("byteAt: unknown", UNKNOWN, x.byteAt(7, 0));
    }

    private static void key() {
        SweepKeeper x = sixAndOneGone();
        Due.is("key: 0", 1, x.key(5, 0, MIN));
        Due.is("key: 1", 1, x.key(5, 1, -11));
        Due.is("key: found", 0, x.find(5, MIN));
        Due.is("key: links stay", NONE, x.get(5, 1));
        Due.is("key: 2", BEYOND, x.key(5, 2, 1));
        Due.is("key: -1", BEYOND, x.key(5, -1, 1));
        Due.is("key: most", BEYOND, x.key(5, MAX, 1));
        Due.is("key: finding", 2, x.finding());
        Due.is("key: a row has none", KIND, x.key(1, 0, 1));
        Due.is("key: gone", GONE, x.key(6, 0, 1));
        Due.is("key: unknown", UNKNOWN, x.key(7, 0, 1));
        Due.is("key: NONE", UNKNOWN, x.key(NONE, 0, 1));
    }

    private static void find() {
        SweepKeeper x = sixAndOneGone();
        Due.is("find: 0 at first", 0, x.find(5, 0));
        x.key(5, 0, 4);
        Due.is("find: the second", 1, x.find(5, 0));
        x.key(5, 1, 4);
        Due.is("find: the first of two", 0, x.find(5, 4));
        Due.is("find: none", NONE, x.find(5, 0));
        Due.is("find: a link is no key", NONE, x.find(5, NONE));
        Due.is("find: finding", 0, x.finding());
        Due.is("find: kind", KIND, x.find(1, 0));
        Due.is("find: gone", GONE, x.find(6, 0));
        Due.is("find: unknown", UNKNOWN, x.find(7, 0));
        Due.is("find: table of none", NONE, x.find(x.make(5, 0), 0));
    }

    private static void root() {
        SweepKeeper x = sixAndOneGone();
        Due.is("root: had none", NONE, x.root(0, 3));
        Due.is("root: had", 3, x.root(0, 3));
        Due.is("root: the last", NONE, x.root(23, 3));
        Due.is("root: NONE", 3, x.root(0, NONE));
        Due.is("root: is NONE", NONE, x.rootOf(0));
        Due.is("root: 24", UNKNOWN, x.root(24, 0));
        Due.is("root: -1", UNKNOWN, x.root(-1, 0));
        Due.is("root: t unknown", UNKNOWN, x.root(0, 7));
        Due.is("root: t -2", UNKNOWN, x.root(0, -2));
        Due.is("root: gone", GONE, x.root(23, 6));
        Due.is("root: finding", 1, x.finding());
        Due.is("root: stays", 3, x.rootOf(23));
        Due.is("root: finding stays", 1, x.finding());
        x.root(22, 0);
        Due.is("root: no finding", 0, x.finding());
    }

    private static void rootOf() {
        SweepKeeper x = sixAndOneGone();
        x.root(23, 5);
        Due.is("rootOf: 23", 5, x.rootOf(23));
        Due.is("rootOf: 22", NONE, x.rootOf(22));
        Due.is("rootOf: 24", UNKNOWN, x.rootOf(24));
        Due.is("rootOf: -1", UNKNOWN, x.rootOf(-1));
    }

    private static SweepKeeper rows() {
        SweepKeeper x = sixAndOneGone();
        x.link(1, 0, 0);
        x.link(1, 1, 1);
        x.link(1, 2, 2);
        return x;
    }

    private static void copy() {
        SweepKeeper x = rows();
        Due.is("copy: into a table", 2, x.copy(1, 1, 5, 0, 2));
        Due.is("copy: first", 1, x.get(5, 0));
        Due.is("copy: second", 2, x.get(5, 1));
        Due.is("copy: out of a table", 1, x.copy(5, 1, 1, 0, 1));
        Due.is("copy: came", 2, x.get(1, 0));
        x = rows();
        Due.is("copy: the same, up", 2, x.copy(1, 0, 1, 1, 2));
        Due.is("copy: one by one", 0, x.get(1, 2));
        x = rows();
        Due.is("copy: the same, down", 2, x.copy(1, 1, 1, 0, 2));
        Due.is("copy: down 0", 1, x.get(1, 0));
        Due.is("copy: down 1", 2, x.get(1, 1));
        Due.is("copy: h unknown", UNKNOWN, x.copy(7, 0, 1, 0, -1));
        Due.is("copy: g unknown", UNKNOWN, x.copy(6, 0, 7, 0, -1));
        Due.is("copy: NONE", UNKNOWN, x.copy(NONE, 0, 1, 0, 1));
        Due.is("copy: NONE", UNKNOWN, x.copy(1, 0, NONE, 0, 1));
        Due.is("copy: h gone", GONE, x.copy(6, 0, 0, 0, -1));
        Due.is("copy: g gone ahead of h's kind", GONE, x.copy(0, 0, 6, 0, -1));
        Due.is("copy: h's kind", KIND, x.copy(0, 0, 1, 0, -1));
        Due.is("copy: g's kind", KIND, x.copy(1, 0, 2, 0, -1));
        Due.is("copy: below 0", SIZE, x.copy(1, 9, 1, 0, -1));
        Due.is("copy: finding", 4, x.finding());
    }

    private static void copyEdges() {
        SweepKeeper x = rows();
        Due.is("copy: none looks at no place", 0, x.copy(1, MIN, 5, MAX, 0));
        Due.is("copy: no finding", 0, x.finding());
        Due.is("copy: up to the end of g", BEYOND, x.copy(1, 0, 5, 1, 3));
        Due.is("copy: what came stays", 0, x.get(5, 1));
        Due.is("copy: one came", 1, x.copied());
        Due.is("copy: up to the end of h", BEYOND, x.copy(1, 2, 5, 0, MAX));
        Due.is("copy: it came", 2, x.get(5, 0));
        Due.is("copy: one came", 1, x.copied());
        Due.is("copy: i below 0", BEYOND, x.copy(1, -1, 5, 0, 1));
        Due.is("copy: none came", 0, x.copied());
        Due.is("copy: j below 0", BEYOND, x.copy(1, 0, 5, -1, 2));
        Due.is("copy: i most", BEYOND, x.copy(1, MAX, 5, 0, MAX));
        Due.is("copy: j most", BEYOND, x.copy(1, 0, 5, MAX, MAX));
        Due.is("copy: finding", 2, x.finding());
        Due.is("copy: all of itself", BEYOND, x.copy(1, 0, 1, 0, 4));
        Due.is("copy: three came", 3, x.copied());
    }

    private static void copied() {
        SweepKeeper x = rows();
        Due.is("copied: 0 ahead of one", 0, x.copied());
        x.copy(1, 0, 5, 0, 2);
        Due.is("copied: 2", 2, x.copied());
        x.copy(7, 0, 5, 0, 2);
        Due.is("copied: refused", 2, x.copied());
        x.copy(6, 0, 5, 0, 2);
        Due.is("copied: gone", 0, x.copied());
        x.copy(1, 0, 5, 0, 2);
        x.copy(1, 0, 0, 0, 2);
        Due.is("copied: kind", 0, x.copied());
        x.copy(1, 0, 5, 0, 2);
        x.copy(1, 0, 5, 0, -2);
        Due.is("copied: size", 0, x.copied());
        x.act(0, 0, 1, 3, 0);
        x.act(7, 0, 0, 0, 3);
        x.act(7, 1, 0, 0, 3);
        x.run(2);
        Due.is("copied: COPY", 3, x.copied());
        x.run(1);
        Due.is("copied: COPY that found", 0, x.copied());
        x.copy(1, 0, 5, 0, 1);
        x.image();
        x.copy(1, 0, 5, 0, 2);
        x.load();
        Due.is("copied: load() leaves it", 2, x.copied());
    }

    private static void shelve() {
        SweepKeeper x = sixAndOneGone();
        int[][] takes = {{1, 0, 0, 1, 1, 0}, {0, 1, 0, 0, 0, 1}, {0, 0, 1, 0, 0, 0}, {0, 0, 0, 1, 1, 0}};
        for (int s = 0; s < 4; s++) {
            for (int h = 0; h < 6; h++) {
                Due.is("shelve " + s + " " + h, takes[s][h] == 1 ? 1 : STORE, x.shelve(s, h, h));
                Due.is("shelf " + s + " " + h, takes[s][h] == 1 ? h : NONE, x.shelf(s, h));
            }
        }
        Due.is("shelve: store", STORE, x.shelve(0, 0, 1));
        Due.is("shelve: finding", 5, x.finding());
        Due.is("shelve: stays", 0, x.shelf(0, 0));
        Due.is("shelve: NONE", 1, x.shelve(0, 0, NONE));
        Due.is("shelve: is NONE", NONE, x.shelf(0, 0));
        Due.is("shelve: the last", 1, x.shelve(3, 7, 4));
        Due.is("shelve: unknown", UNKNOWN, x.shelve(4, 0, 0));
        Due.is("shelve: unknown", UNKNOWN, x.shelve(-1, 0, 0));
        Due.is("shelve: t unknown", UNKNOWN, x.shelve(0, 9, 7));
        Due.is("shelve: gone ahead of beyond", GONE, x.shelve(0, 8, 6));
        Due.is("shelve: beyond ahead of store", BEYOND, x.shelve(0, 8, 1));
        Due.is("shelve: below", BEYOND, x.shelve(0, -1, NONE));
        Due.is("shelve: finding", 2, x.finding());
    }

    private static void shelf() {
        SweepKeeper x = sixKinds();
        x.shelve(2, 7, 2);
        x.shelve(3, 0, 3);
        x.shelve(0, 0, 0);
        x.root(0, 3);
        Due.is("shelf: has", 2, x.shelf(2, 7));
        Due.is("shelf: 8", BEYOND, x.shelf(2, 8));
        Due.is("shelf: finding", 2, x.finding());
        Due.is("shelf: -1", BEYOND, x.shelf(0, -1));
        Due.is("shelf: unknown", UNKNOWN, x.shelf(4, 9));
        Due.is("shelf: unknown", UNKNOWN, x.shelf(-1, 0));
        Due.is("shelf: a shelf keeps nothing", 5, x.cycle());
        Due.is("shelf: what was given back leaves", NONE, x.shelf(2, 7));
        Due.is("shelf: what was given back leaves", NONE, x.shelf(0, 0));
        Due.is("shelf: what was kept stays", 3, x.shelf(3, 0));
        Due.is("shelf: no finding", 0, x.finding());
    }
}
