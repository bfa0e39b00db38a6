/** Promises 4 to 16: what cells tell, and how their links, numbers, bytes and keys change. */
public final class CellBoundariesTest extends Boundary {
    private static final int[] LINKS = {2, 3, 0, 1, 1, 2};

    public static void main(String[] args) {
        kind();
        place();
        measure();
        links();
        link();
        linkOrder();
        linkWhileMarking();
        get();
        weaken();
        look();
        number();
        put();
        byteAt();
        key();
        find();
        end(4, 16);
    }

    // "Its KIND. UNKNOWN; GONE."
    private static void kind() {
        handles("4 kind", (x, h) -> x.kind(h));
        for (int h = PAIR; h <= TABLE; h++) {
            int kind = h;
            test("4 kind: of KIND " + h, () -> {
                SweepKeeper x = six();
                is(kind, x.kind(kind));
                is(0, x.finding());
            });
        }
        test("4 kind: of HANDLE 499, the last", () -> {
            SweepKeeper x = fiveHundred();
            is(PAIR, x.kind(499));
            is(UNKNOWN, x.kind(500));
            x.cycle();
            is(telling(GONE), x.kind(499));
            is(UNKNOWN, x.kind(500));
        });
    }

    // "The place of its first int. UNKNOWN; GONE."
    private static void place() {
        handles("5 place", (x, h) -> x.place(h));
        test("5 place: the first lies at 0, each behind the other", () -> {
            SweepKeeper x = six();
            int[] places = {0, 3, 8, 12, 15, 19};
            for (int h = PAIR; h <= TABLE; h++) {
                is(places[h], x.place(h));
            }
            is(0, x.finding());
        });
        test("5 place: the last place of a full heap", () -> {
            SweepKeeper x = sized(16);
            x.make(ROW, 12);
            x.make(ROW, 0);
            is(14, x.place(1));
        });
        test("5 place: the last place of the largest heap", () -> {
            SweepKeeper x = sized(4000);
            for (int r = 0; r < 13; r++) {
                x.make(ROW, 300);
            }
            x.make(ROW, 70);
            is(3998, x.place(x.make(BYTES, 0)));
        });
        test("5 place: as low as it can lie behind an END", () -> {
            SweepKeeper x = sized(16);
            x.make(ROW, 12);
            x.root(0, x.make(ROW, 0));
            x.cycle();
            is(0, x.place(1));
        });
    }

    private static void bodies(SweepKeeper x, int... due) {
        for (int b = 0; b < due.length; b++) {
            is(due[b], x.trace(b));
        }
    }

    // "Its SIZE: of a PAIR, WEAK body 0, of a WATCHED 1 and 0, of a ROW 2, of a TABLE 3 and 2, of BYTES 4."
    private static void measure() {
        handles("6 measure", (x, h) -> x.measure(h));
        int[] sizes = {3, 5, 4, 3, 4, 6};
        int[][] due = {{1, 0, 0, 0, 0, 0}, {0, 0, 1, 0, 0, 0}, {0, 0, 0, 0, 1, 0}, {1, 0, 0, 0, 0, 0},
            {1, 1, 0, 0, 0, 0}, {0, 0, 1, 1, 0, 0}};
        for (int h = PAIR; h <= TABLE; h++) {
            int kind = h;
            test("6 measure: of KIND " + h + ", and its bodies", () -> {
                SweepKeeper x = six();
                is(sizes[kind], x.measure(kind));
                is(0, x.finding());
                bodies(x, due[kind]);
            });
        }
        int[][] ofNone = {{ROW, 2, 302}, {BYTES, 2, 77}, {TABLE, 2, 602}};
        for (int[] size : ofNone) {
            test("6 measure: of KIND " + size[0] + " with n = 0", () -> {
                SweepKeeper x = new SweepKeeper();
                is(size[1], x.measure(x.make(size[0], 0)));
            });
            test("6 measure: of KIND " + size[0] + " with n = 300", () -> {
                SweepKeeper x = sized(1000);
                is(size[2], x.measure(x.make(size[0], 300)));
            });
        }
        int[] ints = {2, 3, 3, 3, 3, 4, 4, 4, 4, 5};
        test("6 measure: of 0 to 9 BYTES, four an int", () -> {
            SweepKeeper x = new SweepKeeper();
            for (int n = 0; n < ints.length; n++) {
                is(ints[n], x.measure(x.make(BYTES, n)));
            }
        });
        test("6 measure: UNKNOWN and GONE do no body", () -> {
            SweepKeeper x = six();
            x.measure(NEXT);
            x.measure(BACK);
            bodies(x, 0, 0, 0, 0, 0, 0, 0, 0, 0);
        });
    }

    // "How many LINKS it has: of a PAIR body 5, of a WEAK, WATCHED 6 and 5, of a ROW, TABLE 7, of BYTES 8."
    private static void links() {
        handles("7 links", (x, h) -> x.links(h));
        int[][] due = {{1, 0, 0, 0}, {0, 0, 1, 0}, {0, 0, 0, 1}, {1, 1, 0, 0}, {1, 1, 0, 0}, {0, 0, 1, 0}};
        for (int h = PAIR; h <= TABLE; h++) {
            int kind = h;
            test("7 links: of KIND " + h + ", and its bodies", () -> {
                SweepKeeper x = six();
                is(LINKS[kind], x.links(kind));
                is(0, x.finding());
                bodies(x, 0, 0, 0, 0, 0, due[kind][0], due[kind][1], due[kind][2], due[kind][3]);
            });
        }
        int[][] ends = {{ROW, 0, 0}, {ROW, 300, 300}, {TABLE, 0, 0}, {TABLE, 300, 300}, {BYTES, 0, 0}, {BYTES, 300, 0}};
        for (int[] end : ends) {
            test("7 links: of KIND " + end[0] + " with n = " + end[1], () -> {
                SweepKeeper x = sized(1000);
                is(end[2], x.links(x.make(end[0], end[1])));
            });
        }
        test("7 links: UNKNOWN and GONE do no body", () -> {
            SweepKeeper x = six();
            x.links(NEXT);
            x.links(BACK);
            bodies(x, 0, 0, 0, 0, 0, 0, 0, 0, 0);
        });
    }

    // "LINK i becomes t (NONE): 1."; "2 BEYOND: no such LINK"
    private static void link() {
        handles("8 link", (x, h) -> x.link(h, 0, PAIR));
        targets("8 link", (x, t) -> x.link(PAIR, 0, t));
        int[] linked = {PAIR, ROW, WEAK, WATCHED, TABLE};
        for (int h : linked) {
            beyond("8 link: of KIND " + h, LINKS[h], (x, i) -> x.link(h, i, PAIR));
            test("8 link: the first and the last LINK of KIND " + h, () -> {
                SweepKeeper x = six();
                is(1, x.link(h, 0, TABLE));
                is(1, x.link(h, LINKS[h] - 1, WEAK));
                is(WEAK, x.get(h, LINKS[h] - 1));
                is(LINKS[h] == 1 ? WEAK : TABLE, x.get(h, 0));
            });
        }
        test("8 link: BYTES are KIND", () -> finds(KIND, x -> x.link(BYTES, 0, PAIR)));
        test("8 link: t NONE is taken", () -> {
            SweepKeeper x = six();
            x.link(ROW, 2, PAIR);
            is(1, x.link(ROW, 2, NONE));
            is(NONE, x.get(ROW, 2));
            is(0, x.finding());
        });
        test("8 link: a CELL may lead to itself", () -> {
            SweepKeeper x = six();
            is(1, x.link(PAIR, 1, PAIR));
            is(PAIR, x.get(PAIR, 1));
        });
        test("8 link: of a ROW of none even LINK 0 is BEYOND", () -> {
            SweepKeeper x = new SweepKeeper();
            x.make(ROW, 0);
            is(telling(BEYOND), x.link(0, 0, NONE));
        });
        test("8 link: of a TABLE of none even LINK 0 is BEYOND", () -> {
            SweepKeeper x = new SweepKeeper();
            x.make(TABLE, 0);
            is(telling(BEYOND), x.link(0, 0, NONE));
        });
        test("8 link: LINK 299 of a ROW of 300 is the last", () -> {
            SweepKeeper x = sized(400);
            x.make(ROW, 300);
            is(1, x.link(0, 299, 0));
            is(0, x.word(301));
            is(telling(BEYOND), x.link(0, 300, 0));
        });
        test("8 link: a WEAK LINK is no LINK 1, the KEYS of a TABLE are no LINKS", () -> {
            SweepKeeper x = six();
            is(telling(BEYOND), x.link(WEAK, 1, PAIR));
            is(telling(BEYOND), x.link(TABLE, 2, PAIR));
            is(NONE, x.look(WEAK));
            is(0, x.find(TABLE, 0));
        });
    }

    // "FINDINGS: GONE, KIND (BYTES), GONE (t), BEYOND."; "of several the first one that it names"
    private static void linkOrder() {
        test("8 link: t UNKNOWN is told ahead of h GONE", () -> refused(UNKNOWN, x -> x.link(BACK, 0, NEXT)));
        test("8 link: h UNKNOWN is told ahead of t GONE", () -> refused(UNKNOWN, x -> x.link(NEXT, 0, BACK)));
        test("8 link: h GONE is told ahead of BEYOND", () -> finds(GONE, x -> x.link(BACK, 9, PAIR)));
        test("8 link: KIND is told ahead of t GONE", () -> finds(KIND, x -> x.link(BYTES, 0, BACK)));
        test("8 link: KIND is told ahead of BEYOND", () -> finds(KIND, x -> x.link(BYTES, -1, NONE)));
        test("8 link: t GONE is told ahead of BEYOND", () -> finds(GONE, x -> x.link(PAIR, 2, BACK)));
        test("8 link: t NONE and no such LINK is BEYOND", () -> finds(BEYOND, x -> x.link(PAIR, 2, NONE)));
    }

    private static SweepKeeper marking() {
        SweepKeeper x = new SweepKeeper();
        for (int h = 0; h < 6; h++) {
            x.make(PAIR, 0);
        }
        x.link(0, 0, 1);
        x.link(5, 0, 2);
        x.root(0, 0);
        x.step(0);
        return x;
    }

    // "a LINK of any CELL, MARKED or not, that becomes another one, or the same"
    private static void linkWhileMarking() {
        test("8 link: while MARKING first what it led to, then what it leads to", () -> {
            SweepKeeper x = marking();
            x.link(0, 0, 3);
            is(2, x.marked(1));
            is(3, x.marked(3));
        });
        test("8 link: while MARKING of a CELL that is not MARKED, too", () -> {
            SweepKeeper x = marking();
            x.link(5, 0, 3);
            is(2, x.marked(2));
            is(3, x.marked(3));
            is(0, x.marked(5));
        });
        test("8 link: while MARKING the same LINK again", () -> {
            SweepKeeper x = marking();
            x.link(5, 0, 2);
            is(2, x.marked(2));
            is(2, x.about(10));
        });
        test("8 link: while MARKING from NONE to NONE is nothing", () -> {
            SweepKeeper x = marking();
            is(1, x.link(0, 1, NONE));
            is(1, x.about(10));
        });
        test("8 link: while MARKING to NONE what it led to alone", () -> {
            SweepKeeper x = marking();
            x.link(5, 0, NONE);
            is(2, x.marked(2));
            is(2, x.about(10));
        });
        test("8 link: while MARKING one with a FINDING MARKS nothing",
            () -> finds(CellBoundariesTest::marking, BEYOND, x -> x.link(5, 2, 3)));
        test("8 link: while MARKING a refused one MARKS nothing",
            () -> refused(CellBoundariesTest::marking, UNKNOWN, x -> x.link(5, 0, 6)));
        test("8 link: while none is under way nothing is MARKED", () -> {
            SweepKeeper x = six();
            x.link(PAIR, 0, ROW);
            x.link(PAIR, 0, TABLE);
            is(0, x.marked(ROW));
            is(0, x.marked(TABLE));
            is(0, x.about(10));
        });
    }

    // "LINK i. UNKNOWN. FINDINGS: GONE, KIND (BYTES), BEYOND."
    private static void get() {
        handles("9 get", (x, h) -> x.get(h, 0));
        int[] linked = {PAIR, ROW, WEAK, WATCHED, TABLE};
        for (int h : linked) {
            beyond("9 get: of KIND " + h, LINKS[h], (x, i) -> x.get(h, i));
            test("9 get: the first and the last LINK of KIND " + h + " are NONE at first", () -> {
                SweepKeeper x = six();
                is(NONE, x.get(h, 0));
                is(NONE, x.get(h, LINKS[h] - 1));
                is(0, x.finding());
            });
        }
        test("9 get: BYTES are KIND ahead of BEYOND", () -> finds(KIND, x -> x.get(BYTES, -1)));
        test("9 get: GONE is told ahead of BEYOND", () -> finds(GONE, x -> x.get(BACK, 2)));
        test("9 get: of a ROW of none even LINK 0 is BEYOND", () -> {
            SweepKeeper x = new SweepKeeper();
            is(telling(BEYOND), x.get(x.make(ROW, 0), 0));
        });
        test("9 get: LINK 299 of a ROW of 300 is the last", () -> {
            SweepKeeper x = sized(400);
            x.make(ROW, 300);
            x.link(0, 299, 0);
            is(0, x.get(0, 299));
            is(telling(BEYOND), x.get(0, 300));
        });
        test("9 get: a WEAK LINK, a NUMBER, a KEY is no LINK", () -> {
            SweepKeeper x = six();
            x.weaken(WEAK, PAIR);
            is(telling(BEYOND), x.get(WEAK, 1));
            is(telling(BEYOND), x.get(WATCHED, 2));
            is(telling(BEYOND), x.get(TABLE, 2));
            is(NONE, x.get(WEAK, 0));
        });
        test("9 get: MARKS nothing while MARKING", () -> {
            SweepKeeper x = marking();
            is(2, x.get(5, 0));
            is(0, x.marked(2));
            is(1, x.about(10));
        });
    }

    // "The WEAK LINK becomes t (NONE): 1. UNKNOWN. FINDINGS: GONE, KIND, GONE (t)."
    private static void weaken() {
        handles("10 weaken", (x, h) -> x.weaken(h, PAIR));
        targets("10 weaken", (x, t) -> x.weaken(WEAK, t));
        int[] others = {PAIR, ROW, BYTES, TABLE};
        for (int h : others) {
            test("10 weaken: KIND " + h + " has no WEAK LINK", () -> finds(KIND, x -> x.weaken(h, PAIR)));
        }
        test("10 weaken: a WATCHED is a WEAK, too", () -> {
            SweepKeeper x = six();
            is(1, x.weaken(WATCHED, ROW));
            is(ROW, x.look(WATCHED));
            is(0, x.number(WATCHED, 0));
        });
        test("10 weaken: t NONE is taken", () -> {
            SweepKeeper x = six();
            x.weaken(WEAK, PAIR);
            is(1, x.weaken(WEAK, NONE));
            is(NONE, x.look(WEAK));
            is(0, x.finding());
        });
        test("10 weaken: a WEAK may lead to itself", () -> {
            SweepKeeper x = six();
            is(1, x.weaken(WEAK, WEAK));
            x.cycle();
            is(WEAK, x.look(WEAK));
        });
        test("10 weaken: t UNKNOWN is told ahead of h GONE", () -> refused(UNKNOWN, x -> x.weaken(BACK, NEXT)));
        test("10 weaken: t UNKNOWN is told ahead of KIND", () -> refused(UNKNOWN, x -> x.weaken(PAIR, NEXT)));
        test("10 weaken: KIND is told ahead of t GONE", () -> finds(KIND, x -> x.weaken(PAIR, BACK)));
        test("10 weaken: LINK 0 stays", () -> {
            SweepKeeper x = six();
            x.link(WEAK, 0, TABLE);
            x.weaken(WEAK, PAIR);
            is(TABLE, x.get(WEAK, 0));
        });
        test("10 weaken: MARKS neither what it led to nor what it leads to", () -> {
            SweepKeeper x = weakWhileMarking();
            x.weaken(1, 3);
            is(0, x.marked(2));
            is(0, x.marked(3));
            is(1, x.about(10));
        });
    }

    /** WEAK 0 in a root, WEAK 1 that no root reaches, which leads to PAIR 2; PAIR 3; a cycle is under way. */
    private static SweepKeeper weakWhileMarking() {
        SweepKeeper x = new SweepKeeper();
        x.make(WEAK, 0);
        x.make(WEAK, 0);
        x.make(PAIR, 0);
        x.make(PAIR, 0);
        x.weaken(1, 2);
        x.root(0, 0);
        x.step(0);
        return x;
    }

    // "The WEAK LINK. UNKNOWN. FINDINGS: GONE, KIND."; "look(): what it tells (LOOK)"
    private static void look() {
        handles("11 look", (x, h) -> x.look(h));
        int[] others = {PAIR, ROW, BYTES, TABLE};
        for (int h : others) {
            test("11 look: KIND " + h + " has no WEAK LINK", () -> finds(KIND, x -> x.look(h)));
        }
        test("11 look: NONE at first, of a WEAK and a WATCHED", () -> {
            SweepKeeper x = six();
            is(NONE, x.look(WEAK));
            is(NONE, x.look(WATCHED));
            is(0, x.finding());
        });
        test("11 look: NONE behind an END that gave back what it led to", () -> {
            SweepKeeper x = six();
            x.weaken(WEAK, x.make(PAIR, 0));
            is(NEXT, x.look(WEAK));
            x.cycle();
            is(NONE, x.look(WEAK));
        });
        test("11 look: while MARKING it MARKS what it tells, also of a WEAK that is not MARKED", () -> {
            SweepKeeper x = weakWhileMarking();
            is(2, x.look(1));
            is(2, x.marked(2));
            is(0, x.marked(1));
        });
        test("11 look: while MARKING one that tells NONE MARKS nothing", () -> {
            SweepKeeper x = weakWhileMarking();
            is(NONE, x.look(0));
            is(1, x.about(10));
        });
        test("11 look: while none is under way it MARKS nothing", () -> {
            SweepKeeper x = six();
            x.weaken(WEAK, PAIR);
            x.look(WEAK);
            is(0, x.marked(PAIR));
        });
        test("11 look: while MARKING one with a FINDING MARKS nothing",
            () -> finds(CellBoundariesTest::weakWhileMarking, KIND, x -> x.look(2)));
    }

    // "NUMBER of a WATCHED becomes v: what it was. (What is told may be as a refusal is.)"
    private static void number() {
        handles("12 number", (x, h) -> x.number(h, 1));
        int[] others = {PAIR, ROW, BYTES, WEAK, TABLE};
        for (int h : others) {
            test("12 number: KIND " + h + " has no NUMBER", () -> finds(KIND, x -> x.number(h, 1)));
        }
        test("12 number: it was 0 at first", () -> is(0, six().number(WATCHED, 5)));
        int[] values = {MIN, MAX, NONE, UNKNOWN, OUTSIDE, NOT, -11, -12, -13, -14, -15, -16, -17, -18};
        for (int v : values) {
            test("12 number: " + v + " is a number as any other, and no FINDING", () -> {
                SweepKeeper x = six();
                x.number(WATCHED, v);
                x.shelf(0, 8);
                is(v, x.number(WATCHED, 0));
                is(0, x.finding());
                is(0, x.number(WATCHED, 0));
            });
        }
        test("12 number: LINK 0 and the WEAK LINK stay", () -> {
            SweepKeeper x = six();
            x.number(WATCHED, 2);
            is(NONE, x.get(WATCHED, 0));
            is(NONE, x.look(WATCHED));
        });
    }

    // "Byte i of BYTES becomes the lowest 8 bits of v: what it was, 0 .. 255."
    private static void put() {
        handles("13 put", (x, h) -> x.put(h, 0, 1));
        beyond("13 put", 5, (x, i) -> x.put(BYTES, i, 1));
        int[] others = {PAIR, ROW, WEAK, WATCHED, TABLE};
        for (int h : others) {
            test("13 put: KIND " + h + " has no bytes", () -> finds(KIND, x -> x.put(h, 0, 1)));
        }
        int[][] values = {{255, 255}, {256, 0}, {257, 1}, {-1, 255}, {-256, 0}, {-255, 1}, {MIN, 0}, {MAX, 255},
            {128, 128}, {-128, 128}};
        for (int[] v : values) {
            test("13 put: of " + v[0] + " the lowest 8 bits are " + v[1], () -> {
                SweepKeeper x = six();
                is(0, x.put(BYTES, 3, v[0]));
                is(v[1], x.put(BYTES, 3, 0));
                is(0, x.finding());
            });
        }
        for (int i = 0; i < 5; i++) {
            int at = i;
            test("13 put: byte " + i + " lies in bits " + 8 * (i % 4) + " on of int " + i / 4 + ", others stay", () -> {
                SweepKeeper x = six();
                for (int k = 0; k < 5; k++) {
                    x.put(BYTES, k, 255);
                }
                is(255, x.put(BYTES, at, 0));
                is(at < 4 ? ~(255 << 8 * at) : -1, x.word(10));
                is(at < 4 ? 255 : 0, x.word(11));
                is(27, x.word(12));
            });
        }
        test("13 put: of BYTES of none even byte 0 is BEYOND", () -> {
            SweepKeeper x = new SweepKeeper();
            is(telling(BEYOND), x.put(x.make(BYTES, 0), 0, 1));
        });
        test("13 put: byte 299 of 300 is the last", () -> {
            SweepKeeper x = new SweepKeeper();
            x.make(BYTES, 300);
            is(0, x.put(0, 299, 255));
            is(255 << 24, x.word(76));
            is(telling(BEYOND), x.put(0, 300, 1));
        });
        test("13 put: a place of its last int behind the last byte is BEYOND", () -> {
            SweepKeeper x = six();
            for (int i = 5; i < 8; i++) {
                is(telling(BEYOND), x.put(BYTES, i, 255));
            }
            is(0, x.word(11));
        });
        test("13 put: KIND is told ahead of BEYOND", () -> finds(KIND, x -> x.put(ROW, -1, 1)));
        test("13 put: GONE is told ahead of BEYOND", () -> finds(GONE, x -> x.put(BACK, -1, 1)));
    }

    // "Byte i of BYTES, 0 .. 255. UNKNOWN. FINDINGS: GONE, KIND, BEYOND."
    private static void byteAt() {
        handles("14 byteAt", (x, h) -> x.byteAt(h, 0));
        beyond("14 byteAt", 5, (x, i) -> x.byteAt(BYTES, i));
        int[] others = {PAIR, ROW, WEAK, WATCHED, TABLE};
        for (int h : others) {
            test("14 byteAt: KIND " + h + " has no bytes", () -> finds(KIND, x -> x.byteAt(h, 0)));
        }
        test("14 byteAt: each is 0 at first", () -> {
            SweepKeeper x = six();
            for (int i = 0; i < 5; i++) {
                is(0, x.byteAt(BYTES, i));
            }
            is(0, x.finding());
        });
        test("14 byteAt: each is 255 at most, also the highest of an int", () -> {
            SweepKeeper x = six();
            for (int i = 0; i < 5; i++) {
                x.put(BYTES, i, -1);
                is(255, x.byteAt(BYTES, i));
            }
        });
        test("14 byteAt: of BYTES of none even byte 0 is BEYOND", () -> {
            SweepKeeper x = new SweepKeeper();
            is(telling(BEYOND), x.byteAt(x.make(BYTES, 0), 0));
        });
        test("14 byteAt: byte 299 of 300 is the last", () -> {
            SweepKeeper x = new SweepKeeper();
            x.make(BYTES, 300);
            x.put(0, 299, 200);
            is(200, x.byteAt(0, 299));
            is(0, x.byteAt(0, 298));
            is(telling(BEYOND), x.byteAt(0, 300));
        });
        test("14 byteAt: KIND is told ahead of BEYOND", () -> finds(KIND, x -> x.byteAt(TABLE, 9)));
        test("14 byteAt: GONE is told ahead of BEYOND", () -> finds(GONE, x -> x.byteAt(BACK, 9)));
    }

    // "KEY i of a TABLE becomes v: 1. UNKNOWN. FINDINGS: GONE, KIND, BEYOND."
    private static void key() {
        handles("15 key", (x, h) -> x.key(h, 0, 1));
        beyond("15 key", 2, (x, i) -> x.key(TABLE, i, 1));
        for (int h = PAIR; h < TABLE; h++) {
            int kind = h;
            test("15 key: KIND " + h + " has no KEYS", () -> finds(KIND, x -> x.key(kind, 0, 1)));
        }
        test("15 key: the first and the last", () -> {
            SweepKeeper x = six();
            is(1, x.key(TABLE, 0, 7));
            is(1, x.key(TABLE, 1, 8));
            is(7, x.word(23));
            is(8, x.word(24));
            is(0, x.word(25));
            is(NONE, x.get(TABLE, 1));
            is(0, x.finding());
        });
        int[] values = {MIN, MAX, NONE, UNKNOWN, -11};
        for (int v : values) {
            test("15 key: " + v + " is a KEY as any other", () -> {
                SweepKeeper x = six();
                is(1, x.key(TABLE, 1, v));
                is(v, x.word(24));
            });
        }
        test("15 key: of a TABLE of none even KEY 0 is BEYOND", () -> {
            SweepKeeper x = new SweepKeeper();
            is(telling(BEYOND), x.key(x.make(TABLE, 0), 0, 1));
        });
        test("15 key: KEY 299 of 300 is the last", () -> {
            SweepKeeper x = sized(700);
            x.make(TABLE, 300);
            is(1, x.key(0, 299, 6));
            is(6, x.word(601));
            is(telling(BEYOND), x.key(0, 300, 6));
        });
        test("15 key: KIND is told ahead of BEYOND", () -> finds(KIND, x -> x.key(ROW, 9, 1)));
        test("15 key: GONE is told ahead of BEYOND", () -> finds(GONE, x -> x.key(BACK, 9, 1)));
        test("15 key: a KEY that is a HANDLE is no LINK, and MARKS nothing", () -> {
            SweepKeeper x = six();
            x.make(PAIR, 0);
            x.step(0);
            x.key(TABLE, 0, NEXT);
            is(0, x.marked(NEXT));
            is(1, x.cycle());
            is(0, x.find(TABLE, NEXT));
        });
    }

    // "The first KEY of a TABLE that is v: its place; NONE. UNKNOWN. FINDINGS: GONE, KIND."
    private static void find() {
        handles("16 find", (x, h) -> x.find(h, 0));
        for (int h = PAIR; h < TABLE; h++) {
            int kind = h;
            test("16 find: KIND " + h + " has no KEYS", () -> finds(KIND, x -> x.find(kind, 0)));
        }
        test("16 find: the first of several", () -> is(0, six().find(TABLE, 0)));
        test("16 find: at the last place", () -> {
            SweepKeeper x = six();
            x.key(TABLE, 1, 4);
            is(1, x.find(TABLE, 4));
        });
        test("16 find: none is NONE, and no FINDING", () -> {
            SweepKeeper x = six();
            x.shelf(0, 8);
            is(NONE, x.find(TABLE, 4));
            is(0, x.finding());
        });
        test("16 find: LINKS that are NONE are no KEYS that are -1", () -> {
            SweepKeeper x = six();
            is(NONE, x.find(TABLE, NONE));
            x.key(TABLE, 1, NONE);
            is(1, x.find(TABLE, NONE));
        });
        test("16 find: n is no KEY, nor what lies behind the last", () -> {
            SweepKeeper x = six();
            x.make(ROW, 0);
            is(NONE, x.find(TABLE, 2));
            is(NONE, x.find(TABLE, NEXT * 8 + ROW));
        });
        int[] values = {MIN, MAX};
        for (int v : values) {
            test("16 find: " + v, () -> {
                SweepKeeper x = six();
                is(NONE, x.find(TABLE, v));
                x.key(TABLE, 1, v);
                is(1, x.find(TABLE, v));
            });
        }
        test("16 find: in a TABLE of none is NONE", () -> {
            SweepKeeper x = new SweepKeeper();
            is(NONE, x.find(x.make(TABLE, 0), 0));
            is(0, x.finding());
        });
        test("16 find: KEY 299 of 300", () -> {
            SweepKeeper x = sized(700);
            x.make(TABLE, 300);
            x.key(0, 299, 6);
            is(299, x.find(0, 6));
        });
    }
}
