/** Promises 37 to 41: acts, runs, what they find, and registers. */
public final class ProgramBoundariesTest extends Boundary {
    private static final int MAKE = 0, LINK = 1, GET = 2, SET_ROOT = 3, TAKE = 4, LOOK = 5, WEAKEN = 6, COPY = 7;
    private static final int DROP = 8, STEP = 9, FAIL_ACT = 10, PUT = 11, SHELVE = 12;

    /** Of six registers r has the cell r of six(); R6 has the one that was given back, and R7 has NONE. */
    private static final int R_BACK = 6, R_NONE = 7;

    public static void main(String[] args) {
        actWhat();
        actNames();
        actNumbers();
        actFull();
        clear();
        runNumbers();
        runGoesRound();
        runEndsBehindFinding();
        runMake();
        runLinkAndGet();
        runRoots();
        runWeak();
        runCopy();
        runDropStepFail();
        runPut();
        runShelve();
        found();
        register();
        end(37, 41);
    }

    private static SweepKeeper six8() {
        SweepKeeper x = new SweepKeeper();
        int[] counts = {0, 3, 5, 0, 0, 2, 0};
        for (int r = 0; r < 7; r++) {
            x.act(MAKE, r, r == BACK ? PAIR : r, counts[r], 0);
        }
        x.run(7);
        x.clear();
        for (int h = PAIR; h <= TABLE; h++) {
            x.root(h, h);
        }
        x.cycle();
        return x;
    }

    /** Does one act alone: its finding. */
    private static int once(SweepKeeper x, int what, int a, int b, int c, int d) {
        x.clear();
        x.act(what, a, b, c, d);
        x.run(1);
        return x.found();
    }

    /** An act with a finding changes nothing but what is counted and found. */
    private static void actFinds(int finding, int what, int a, int b, int c, int d) {
        SweepKeeper x = six8();
        x.act(what, a, b, c, d);
        x.shelf(0, 8);
        int before = x.digest();
        is(1, x.run(9));
        is(finding, x.found());
        is(BEYOND, x.finding());
        is(before, x.digest());
        is(1, x.about(15));
        for (int r = 0; r < 7; r++) {
            is(r, x.register(r));
        }
        is(NONE, x.register(R_NONE));
        is(7, x.about(2));
    }

    private static void finding(String name, int finding, int what, int a, int b, int c, int d) {
        test("39 run: " + name, () -> actFinds(finding, what, a, b, c, d));
    }

    // "OUTSIDE: what is not 0 .. 12"
    private static void actWhat() {
        int[] outside = {-1, 13, MIN, MAX};
        for (int what : outside) {
            test("37 act: what " + what + " is OUTSIDE", () -> refused(OUTSIDE, x -> x.act(what, 0, 0, 0, 0)));
            test("37 act: what " + what + " is OUTSIDE, whatever it would name",
                () -> refused(OUTSIDE, x -> x.act(what, -1, -1, -1, -1)));
        }
        for (int w = 0; w <= 12; w++) {
            int what = w;
            test("37 act: what " + what + " is taken", () -> {
                SweepKeeper x = new SweepKeeper();
                is(1, x.act(what, 0, 0, 0, 0));
                is(1, x.about(12));
                is(0, x.about(13));
            });
        }
    }

    // "UNKNOWN: a REGISTER, ROOT, SHELF that it names"
    private static void actNames() {
        int[][] names = {{8, 0, 0}, {8, 0, 8}, {8, 0, 8}, {24, 8, 0}, {24, 8, 0}, {8, 8, 0}, {8, 8, 0}, {8, 0, 8},
            {8, 0, 0}, {0, 0, 0}, {0, 0, 0}, {8, 0, 0}, {4, 0, 8}};
        for (int w = 0; w < names.length; w++) {
            int what = w;
            for (int k = 0; k < 3; k++) {
                if (names[w][k] > 0) {
                    unknownNames(what, k, names[w][k]);
                }
            }
            test("37 act: the last of all that ACT " + w + " names", () -> {
                int[] v = names[what];
                SweepKeeper x = new SweepKeeper();
                is(1, x.act(what, Math.max(v[0] - 1, 0), Math.max(v[1] - 1, 0), Math.max(v[2] - 1, 0), 0));
            });
        }
    }

    private static void unknownNames(int what, int at, int names) {
        int[] unknown = {-1, names, MIN, MAX};
        for (int name : unknown) {
            int[] v = new int[3];
            v[at] = name;
            test("37 act: ACT " + what + " names no " + name + " as " + "abc".charAt(at),
                () -> refused(UNKNOWN, x -> x.act(what, v[0], v[1], v[2], 0)));
        }
    }

    // "KIND, n above 300 of MAKE (as make()); a of STEP not 0 .. 1000 (others are not looked at)"
    private static void actNumbers() {
        int[] noKinds = {-1, 6, MIN, MAX};
        for (int kind : noKinds) {
            test("37 act: MAKE of KIND " + kind + " is OUTSIDE",
                () -> refused(OUTSIDE, x -> x.act(MAKE, 0, kind, 0, 0)));
        }
        int[] counted = {ROW, BYTES, TABLE};
        for (int kind : counted) {
            test("37 act: MAKE of KIND " + kind + " with n 301 is OUTSIDE",
                () -> refused(OUTSIDE, x -> x.act(MAKE, 0, kind, 301, 0)));
            test("37 act: MAKE of KIND " + kind + " with n as high as an int goes is OUTSIDE",
                () -> refused(OUTSIDE, x -> x.act(MAKE, 0, kind, MAX, 0)));
            test("37 act: MAKE of KIND " + kind + " with n 300, and with n below 0", () -> {
                SweepKeeper x = new SweepKeeper();
                is(1, x.act(MAKE, 0, kind, 300, 0));
                is(2, x.act(MAKE, 0, kind, -1, 0));
                is(3, x.act(MAKE, 0, kind, MIN, 0));
            });
        }
        int[] uncounted = {PAIR, WEAK, WATCHED};
        for (int kind : uncounted) {
            test("37 act: MAKE of KIND " + kind + " does not look at n", () -> {
                SweepKeeper x = new SweepKeeper();
                is(1, x.act(MAKE, 0, kind, 301, 0));
                is(2, x.act(MAKE, 0, kind, MIN, MAX));
            });
        }
        int[] noSteps = {-1, 1001, MIN, MAX};
        for (int a : noSteps) {
            test("37 act: STEP " + a + " is OUTSIDE", () -> refused(OUTSIDE, x -> x.act(STEP, a, 0, 0, 0)));
        }
        test("37 act: STEP 0 and STEP 1000 are taken", () -> {
            SweepKeeper x = new SweepKeeper();
            is(1, x.act(STEP, 0, MIN, MIN, MIN));
            is(2, x.act(STEP, 1000, MAX, MAX, MAX));
        });
        test("37 act: other numbers are not looked at", () -> {
            SweepKeeper x = new SweepKeeper();
            int[][] acts = {{LINK, 0, MIN, 0, MAX}, {GET, 0, MAX, 0, MIN}, {SET_ROOT, 0, 0, MIN, MAX},
                {TAKE, 0, 0, MAX, MIN}, {LOOK, 0, 0, 301, 301}, {WEAKEN, 0, 0, -1, -1}, {COPY, 0, MIN, 0, MIN},
                {DROP, 0, MIN, MAX, MIN}, {FAIL_ACT, MIN, MAX, MIN, MAX}, {PUT, 0, MIN, MAX, MIN},
                {SHELVE, 0, MAX, 0, MIN}};
            for (int k = 0; k < acts.length; k++) {
                is(k + 1, x.act(acts[k][0], acts[k][1], acts[k][2], acts[k][3], acts[k][4]));
            }
        });
        test("37 act: a REGISTER is looked at ahead of KIND", () -> refused(UNKNOWN, x -> x.act(MAKE, 8, 6, 0, 0)));
        test("37 act: a REGISTER is looked at ahead of n", () -> refused(UNKNOWN, x -> x.act(MAKE, -1, ROW, 301, 0)));
    }

    private static SweepKeeper forty() {
        SweepKeeper x = new SweepKeeper();
        for (int k = 0; k < 40; k++) {
            x.act(k == 39 ? MAKE : DROP, 0, 0, 0, 0);
        }
        return x;
    }

    // "NOT: there are 40."
    private static void actFull() {
        test("37 act: the 40th is taken", () -> {
            SweepKeeper x = new SweepKeeper();
            for (int k = 1; k <= 40; k++) {
                is(k, x.act(DROP, 0, 0, 0, 0));
            }
            is(40, x.about(12));
        });
        test("37 act: the 41st is NOT", () -> refused(ProgramBoundariesTest::forty, NOT, x -> x.act(DROP, 0, 0, 0, 0)));
        test("37 act: UNKNOWN of the 41st is told ahead of NOT",
            () -> refused(ProgramBoundariesTest::forty, UNKNOWN, x -> x.act(DROP, 8, 0, 0, 0)));
        test("37 act: OUTSIDE of the 41st is told ahead of NOT",
            () -> refused(ProgramBoundariesTest::forty, OUTSIDE, x -> x.act(STEP, 1001, 0, 0, 0)));
        test("37 act: no such ACT of the 41st is OUTSIDE ahead of NOT",
            () -> refused(ProgramBoundariesTest::forty, OUTSIDE, x -> x.act(13, 0, 0, 0, 0)));
        test("37 act: the 41st is NOT behind a RUN, too", () -> {
            SweepKeeper x = forty();
            x.run(5);
            is(NOT, x.act(DROP, 0, 0, 0, 0));
        });
        test("37 act: behind clear() the next is the first", () -> {
            SweepKeeper x = forty();
            x.clear();
            is(1, x.act(DROP, 0, 0, 0, 0));
        });
    }

    // "THE PROGRAM has no ACTS any more, and the next is the first: how many it had."
    private static void clear() {
        test("38 clear: of none is 0", () -> is(0, new SweepKeeper().clear()));
        test("38 clear: of 40 is 40, and then 0", () -> {
            SweepKeeper x = forty();
            is(40, x.clear());
            is(0, x.clear());
            is(0, x.about(12));
        });
        test("38 clear: the next is the first", () -> {
            SweepKeeper x = forty();
            x.run(7);
            is(7, x.about(13));
            x.clear();
            is(0, x.about(13));
            x.act(MAKE, 3, 0, 0, 0);
            x.run(1);
            is(0, x.register(3));
        });
        test("38 clear: behind it a RUN is NOT", () -> {
            SweepKeeper x = forty();
            x.clear();
            is(NOT, x.run(0));
        });
        test("38 clear: REGISTERS, counts, found() and finding() stay", () -> {
            SweepKeeper x = six8();
            once(x, FAIL_ACT, 0, 0, 0, 0);
            x.shelf(0, 8);
            is(1, x.clear());
            is(BEYOND, x.finding());
            is(FAIL_OF_NOTHING, x.found());
            is(TABLE, x.register(TABLE));
            is(8, x.about(14));
            is(1, x.about(15));
        });
    }

    // "A RUN of n ACTS at most, 0 .. 200: how many were begun. OUTSIDE; NOT: there are no ACTS."
    private static void runNumbers() {
        int[] outside = {-1, 201, MIN, MAX};
        for (int n : outside) {
            test("39 run: " + n + " is OUTSIDE", () -> refused(ProgramBoundariesTest::forty, OUTSIDE, x -> x.run(n)));
            test("39 run: " + n + " is OUTSIDE ahead of NOT", () -> refused(OUTSIDE, x -> x.run(n)));
        }
        int[] not = {0, 1, 200};
        for (int n : not) {
            test("39 run: " + n + " without ACTS is NOT", () -> refused(NOT, x -> x.run(n)));
        }
        test("39 run: 0 begins none, and changes nothing", () -> {
            SweepKeeper x = forty();
            int state = stateOf(x);
            is(0, x.run(0));
            is(state, stateOf(x));
        });
        test("39 run: 1 does the next one alone", () -> {
            SweepKeeper x = forty();
            is(1, x.run(1));
            is(1, x.about(13));
            is(1, x.about(14));
        });
        test("39 run: 200, the most", () -> {
            SweepKeeper x = new SweepKeeper();
            x.act(MAKE, 0, BYTES, 0, 0);
            is(200, x.run(200));
            is(200, x.about(2));
            is(200, x.about(14));
        });
        test("39 run: names no FINDING", () -> {
            SweepKeeper x = forty();
            x.shelf(0, 8);
            x.run(3);
            is(BEYOND, x.finding());
            is(0, x.found());
        });
    }

    // "A PROGRAM of up to 40 ACTS goes round: behind its last ACT its first one is next."
    private static void runGoesRound() {
        test("39 run: one ACT alone goes round", () -> {
            SweepKeeper x = new SweepKeeper();
            x.act(MAKE, 0, PAIR, 0, 0);
            is(3, x.run(3));
            is(0, x.about(13));
            is(3, x.about(2));
        });
        test("39 run: just to the last of 40, and behind it the first", () -> {
            SweepKeeper x = forty();
            is(39, x.run(39));
            is(39, x.about(13));
            is(0, x.about(2));
            is(1, x.run(1));
            is(0, x.about(13));
            is(0, x.register(0));
            is(1, x.run(1));
            is(NONE, x.register(0));
        });
        test("39 run: 200 of 40 goes round five times", () -> {
            SweepKeeper x = forty();
            is(200, x.run(200));
            is(5, x.about(2));
            is(0, x.about(13));
        });
        test("39 run: the next RUN goes on where the one before ended", () -> {
            SweepKeeper x = new SweepKeeper();
            x.act(MAKE, 0, PAIR, 0, 0);
            x.act(MAKE, 1, PAIR, 0, 0);
            x.act(MAKE, 2, PAIR, 0, 0);
            x.run(2);
            x.run(2);
            is(3, x.register(0));
            is(1, x.register(1));
            is(2, x.register(2));
            is(1, x.about(13));
        });
        test("39 run: an ACT that comes behind the last was done is not next", () -> {
            SweepKeeper x = new SweepKeeper();
            x.act(MAKE, 0, PAIR, 0, 0);
            x.run(1);
            x.act(MAKE, 1, PAIR, 0, 0);
            is(0, x.about(13));
            x.run(1);
            is(1, x.register(0));
            is(NONE, x.register(1));
        });
    }

    // "A RUN ends behind an ACT with a FINDING."
    private static void runEndsBehindFinding() {
        test("39 run: ends behind a FINDING of its first ACT, which was begun", () -> {
            SweepKeeper x = new SweepKeeper();
            x.act(FAIL_ACT, 1, 0, 0, 0);
            x.act(MAKE, 0, PAIR, 0, 0);
            is(1, x.run(200));
            is(1, x.about(13));
            is(0, x.about(2));
            is(1, x.about(14));
            is(1, x.about(15));
        });
        test("39 run: ends behind a FINDING of the last ACT of THE PROGRAM, and the first is next", () -> {
            SweepKeeper x = new SweepKeeper();
            x.act(MAKE, 0, PAIR, 0, 0);
            x.act(FAIL_ACT, 1, 0, 0, 0);
            is(2, x.run(200));
            is(0, x.about(13));
            is(1, x.about(2));
        });
        test("39 run: a FINDING of the last ACT of the RUN", () -> {
            SweepKeeper x = new SweepKeeper();
            x.act(MAKE, 0, PAIR, 0, 0);
            x.act(FAIL_ACT, 1, 0, 0, 0);
            is(2, x.run(2));
            is(FAIL, x.found());
        });
        test("39 run: goes on behind it with the next RUN", () -> {
            SweepKeeper x = new SweepKeeper();
            x.act(FAIL_ACT, 1, 0, 0, 0);
            x.act(MAKE, 0, PAIR, 0, 0);
            x.run(5);
            is(2, x.run(5));
            is(FAIL, x.found());
            is(1, x.about(2));
        });
    }

    // "0 MAKE: R a becomes a new CELL of KIND b with n = c."
    private static void runMake() {
        finding("MAKE with n below 0 is SIZE, its REGISTER stays", SIZE, MAKE, 0, ROW, -1, 0);
        finding("MAKE with n as low as an int goes is SIZE", SIZE, MAKE, 0, TABLE, MIN, 0);
        finding("MAKE of more than N is ROOM, its REGISTER stays", ROOM, MAKE, 0, ROW, 255, 0);
        test("39 run: MAKE in R7, just in the free ints", () -> {
            SweepKeeper x = six8();
            is(0, once(x, MAKE, R_NONE, ROW, 229, 0));
            is(NEXT, x.register(R_NONE));
            is(0, x.about(1));
        });
        test("39 run: MAKE that needs a CYCLE gives back what REGISTERS alone have", () -> {
            SweepKeeper x = sized(16);
            is(0, once(x, MAKE, 0, ROW, 14, 0));
            is(0, once(x, MAKE, 1, ROW, 14, 0));
            is(0, x.register(0));
            is(1, x.register(1));
            is(telling(GONE), x.kind(0));
        });
        test("39 run: MAKE of the 501st CELL is ROOM", () -> {
            SweepKeeper x = fiveHundred();
            is(ROOM, once(x, MAKE, 0, PAIR, 0, 0));
            is(499, x.register(0));
        });
        test("39 run: MAKE of a PAIR does not look at n", () -> {
            SweepKeeper x = six8();
            is(0, once(x, MAKE, 0, PAIR, MIN, 0));
            is(NEXT, x.register(0));
        });
    }

    // "1 LINK: LINK b of R a's becomes R c (NONE). 2 GET: R c becomes LINK b of R a's."; "(a REGISTER that has NONE
    // where a CELL must be: GONE)"
    private static void runLinkAndGet() {
        finding("LINK of NONE is GONE", GONE, LINK, R_NONE, 0, 0, 0);
        finding("LINK of one GIVEN BACK is GONE", GONE, LINK, R_BACK, 0, 0, 0);
        finding("LINK to one GIVEN BACK is GONE", GONE, LINK, PAIR, 0, R_BACK, 0);
        finding("LINK to one GIVEN BACK is GONE ahead of BEYOND", GONE, LINK, PAIR, 2, R_BACK, 0);
        finding("LINK of BYTES is KIND ahead of GONE", KIND, LINK, BYTES, 0, R_BACK, 0);
        finding("LINK below the first is BEYOND", BEYOND, LINK, PAIR, -1, 0, 0);
        finding("LINK behind the last is BEYOND", BEYOND, LINK, PAIR, 2, 0, 0);
        finding("LINK as high as an int goes is BEYOND", BEYOND, LINK, ROW, MAX, 0, 0);
        test("39 run: LINK to NONE is taken", () -> {
            SweepKeeper x = six8();
            x.link(PAIR, 1, ROW);
            is(0, once(x, LINK, PAIR, 1, R_NONE, 0));
            is(NONE, x.get(PAIR, 1));
        });
        finding("GET of NONE is GONE", GONE, GET, R_NONE, 0, 0, 0);
        finding("GET of one GIVEN BACK is GONE", GONE, GET, R_BACK, 0, 0, 0);
        finding("GET of BYTES is KIND, its REGISTER stays", KIND, GET, BYTES, 0, 0, 0);
        finding("GET below the first is BEYOND, its REGISTER stays", BEYOND, GET, ROW, -1, 0, 0);
        finding("GET behind the last is BEYOND, its REGISTER stays", BEYOND, GET, ROW, 3, 0, 0);
        test("39 run: GET of a LINK that is NONE", () -> {
            SweepKeeper x = six8();
            is(0, once(x, GET, ROW, 2, ROW, 0));
            is(NONE, x.register(ROW));
        });
        test("39 run: GET of the last LINK", () -> {
            SweepKeeper x = six8();
            x.link(ROW, 2, TABLE);
            is(0, once(x, GET, ROW, 2, R_NONE, 0));
            is(TABLE, x.register(R_NONE));
        });
    }

    // "3 ROOT: ROOT a becomes R b (NONE). 4 TAKE: R b becomes what ROOT a has."
    private static void runRoots() {
        finding("ROOT of one GIVEN BACK is GONE, the ROOT stays", GONE, SET_ROOT, 0, R_BACK, 0, 0);
        test("39 run: ROOT 23 becomes a CELL, and NONE", () -> {
            SweepKeeper x = six8();
            is(0, once(x, SET_ROOT, 23, TABLE, 0, 0));
            is(TABLE, x.rootOf(23));
            is(0, once(x, SET_ROOT, 23, R_NONE, 0, 0));
            is(NONE, x.rootOf(23));
        });
        test("39 run: TAKE of ROOT 23 that has NONE is no FINDING", () -> {
            SweepKeeper x = six8();
            is(0, once(x, TAKE, 23, 0, 0, 0));
            is(NONE, x.register(0));
        });
        test("39 run: TAKE into R7", () -> {
            SweepKeeper x = six8();
            is(0, once(x, TAKE, 0, R_NONE, 0, 0));
            is(PAIR, x.register(R_NONE));
        });
        test("39 run: while MARKING ROOT MARKS, and TAKE does not", () -> {
            SweepKeeper x = six8();
            once(x, MAKE, R_NONE, PAIR, 0, 0);
            x.step(0);
            once(x, TAKE, 9, 0, 0, 0);
            is(6, x.about(10));
            once(x, SET_ROOT, 9, R_NONE, 0, 0);
            is(7, x.marked(NEXT));
        });
    }

    // "5 LOOK: R b becomes what look() of R a's tells. 6 WEAKEN: R a's WEAK LINK becomes R b (NONE)."
    private static void runWeak() {
        finding("LOOK of NONE is GONE", GONE, LOOK, R_NONE, 0, 0, 0);
        finding("LOOK of one GIVEN BACK is GONE", GONE, LOOK, R_BACK, 0, 0, 0);
        finding("LOOK of a PAIR is KIND, its REGISTER stays", KIND, LOOK, PAIR, 1, 0, 0);
        test("39 run: LOOK that tells NONE is no FINDING", () -> {
            SweepKeeper x = six8();
            is(0, once(x, LOOK, WEAK, 0, 0, 0));
            is(NONE, x.register(0));
        });
        finding("WEAKEN of NONE is GONE", GONE, WEAKEN, R_NONE, 0, 0, 0);
        finding("WEAKEN of one GIVEN BACK is GONE", GONE, WEAKEN, R_BACK, 0, 0, 0);
        finding("WEAKEN of a ROW is KIND ahead of GONE", KIND, WEAKEN, ROW, R_BACK, 0, 0);
        finding("WEAKEN to one GIVEN BACK is GONE", GONE, WEAKEN, WEAK, R_BACK, 0, 0);
        test("39 run: WEAKEN to NONE is taken", () -> {
            SweepKeeper x = six8();
            x.weaken(WATCHED, PAIR);
            is(0, once(x, WEAKEN, WATCHED, R_NONE, 0, 0));
            is(NONE, x.look(WATCHED));
        });
        test("39 run: while MARKING LOOK MARKS, and WEAKEN does not", () -> {
            SweepKeeper x = six8();
            once(x, MAKE, R_NONE, PAIR, 0, 0);
            x.step(0);
            once(x, WEAKEN, WEAK, R_NONE, 0, 0);
            is(0, x.marked(NEXT));
            once(x, LOOK, WEAK, 0, 0, 0);
            is(7, x.marked(NEXT));
        });
    }

    // "7 COPY: as copy(), of R a's from place b on, into R c's from place 0 on, d LINKS."
    private static void runCopy() {
        finding("COPY of NONE is GONE", GONE, COPY, R_NONE, 0, ROW, 1);
        finding("COPY into NONE is GONE ahead of KIND", GONE, COPY, PAIR, 0, R_NONE, 1);
        finding("COPY of one GIVEN BACK is GONE", GONE, COPY, R_BACK, 0, ROW, 0);
        finding("COPY into one GIVEN BACK is GONE", GONE, COPY, ROW, 0, R_BACK, 0);
        finding("COPY of a PAIR is KIND ahead of SIZE", KIND, COPY, PAIR, 0, ROW, -1);
        finding("COPY into BYTES is KIND", KIND, COPY, ROW, 0, BYTES, 0);
        finding("COPY of -1 LINKS is SIZE ahead of BEYOND", SIZE, COPY, ROW, 9, TABLE, -1);
        finding("COPY from a place below 0 is BEYOND", BEYOND, COPY, ROW, -1, TABLE, 1);
        finding("COPY from the place behind the last is BEYOND", BEYOND, COPY, ROW, 3, TABLE, 1);
        finding("COPY from a place as high as an int goes is BEYOND", BEYOND, COPY, ROW, MAX, TABLE, MAX);
        test("39 run: COPY of 0 LINKS looks at no place", () -> {
            SweepKeeper x = six8();
            is(0, once(x, COPY, ROW, MIN, TABLE, 0));
            is(0, x.copied());
        });
        test("39 run: COPY up to the last place, and one more", () -> {
            SweepKeeper x = six8();
            x.link(ROW, 1, PAIR);
            x.link(ROW, 2, WEAK);
            is(0, once(x, COPY, ROW, 1, TABLE, 2));
            is(2, x.copied());
            is(PAIR, x.get(TABLE, 0));
            is(WEAK, x.get(TABLE, 1));
            is(BEYOND, once(x, COPY, ROW, 2, TABLE, 2));
            is(1, x.copied());
            is(WEAK, x.get(TABLE, 0));
        });
    }

    // "8 DROP: R a becomes NONE. 9 STEP: step(a). 10 FAIL: FAIL, with a = 0 a FAIL of nothing."
    private static void runDropStepFail() {
        test("39 run: DROP of R7 that has NONE already", () -> {
            SweepKeeper x = six8();
            is(0, once(x, DROP, R_NONE, 0, 0, 0));
            is(NONE, x.register(R_NONE));
        });
        test("39 run: DROP leaves the CELL", () -> {
            SweepKeeper x = six8();
            is(0, once(x, DROP, 0, 0, 0, 0));
            is(NONE, x.register(0));
            is(PAIR, x.kind(0));
        });
        test("39 run: STEP 0 BEGINS, and ENDS if there is nothing", () -> {
            SweepKeeper x = six8();
            is(0, once(x, STEP, 0, 0, 0, 0));
            is(1, x.phase());
            SweepKeeper y = new SweepKeeper();
            is(0, once(y, STEP, 0, 0, 0, 0));
            is(0, y.phase());
            is(1, y.about(4));
        });
        test("39 run: STEP 1000 ENDS, and is no FINDING", () -> {
            SweepKeeper x = six8();
            is(0, once(x, STEP, 1000, 0, 0, 0));
            is(2, x.about(4));
        });
        finding("FAIL with a = 0 is a FAIL of nothing", FAIL_OF_NOTHING, FAIL_ACT, 0, 0, 0, 0);
        finding("FAIL with a = 1", FAIL, FAIL_ACT, 1, 0, 0, 0);
        finding("FAIL with a = -1", FAIL, FAIL_ACT, -1, 0, 0, 0);
        finding("FAIL with a as low as an int goes", FAIL, FAIL_ACT, MIN, 0, 0, 0);
        finding("FAIL with a as high as an int goes", FAIL, FAIL_ACT, MAX, 0, 0, 0);
    }

    // "11 PUT: byte b of R a's becomes c."
    private static void runPut() {
        finding("PUT of NONE is GONE", GONE, PUT, R_NONE, 0, 1, 0);
        finding("PUT of one GIVEN BACK is GONE", GONE, PUT, R_BACK, 0, 1, 0);
        finding("PUT of a ROW is KIND ahead of BEYOND", KIND, PUT, ROW, 9, 1, 0);
        finding("PUT below the first is BEYOND", BEYOND, PUT, BYTES, -1, 1, 0);
        finding("PUT behind the last is BEYOND", BEYOND, PUT, BYTES, 5, 1, 0);
        test("39 run: PUT of the last byte, its lowest 8 bits", () -> {
            SweepKeeper x = six8();
            is(0, once(x, PUT, BYTES, 4, -1, 0));
            is(255, x.byteAt(BYTES, 4));
            is(0, once(x, PUT, BYTES, 4, 256, 0));
            is(0, x.byteAt(BYTES, 4));
        });
    }

    // "12 SHELVE: place b of SHELF a becomes R c (NONE)."
    private static void runShelve() {
        finding("SHELVE of one GIVEN BACK is GONE ahead of BEYOND", GONE, SHELVE, 0, 8, R_BACK, 0);
        finding("SHELVE at a place below 0 is BEYOND ahead of STORE", BEYOND, SHELVE, 0, -1, ROW, 0);
        finding("SHELVE at place 8 is BEYOND", BEYOND, SHELVE, 0, 8, PAIR, 0);
        finding("SHELVE of NONE at place 8 is BEYOND", BEYOND, SHELVE, 3, 8, R_NONE, 0);
        finding("SHELVE of a PAIR among WEAK ones is STORE", STORE, SHELVE, 3, 7, PAIR, 0);
        test("39 run: SHELVE at the last place of the last SHELF, and NONE", () -> {
            SweepKeeper x = six8();
            is(0, once(x, SHELVE, 3, 7, WATCHED, 0));
            is(WATCHED, x.shelf(3, 7));
            is(0, once(x, SHELVE, 3, 7, R_NONE, 0));
            is(NONE, x.shelf(3, 7));
        });
    }

    // "The FINDING of the latest ACT of the latest RUN (that began one), 0 without. 0 ahead of one."
    private static void found() {
        test("40 found: 0 ahead of a RUN", () -> is(0, new SweepKeeper().found()));
        test("40 found: 8, the highest, and 1, the lowest", () -> {
            SweepKeeper x = six8();
            once(x, FAIL_ACT, 0, 0, 0, 0);
            is(FAIL_OF_NOTHING, x.found());
            once(x, GET, R_NONE, 0, 0, 0);
            is(GONE, x.found());
        });
        test("40 found: 0 behind a RUN without FINDING", () -> {
            SweepKeeper x = six8();
            once(x, FAIL_ACT, 0, 0, 0, 0);
            once(x, DROP, 0, 0, 0, 0);
            is(0, x.found());
        });
        test("40 found: a RUN that began none leaves it", () -> {
            SweepKeeper x = six8();
            once(x, FAIL_ACT, 1, 0, 0, 0);
            x.run(0);
            is(FAIL, x.found());
        });
        test("40 found: a refused RUN leaves it", () -> {
            SweepKeeper x = six8();
            once(x, FAIL_ACT, 1, 0, 0, 0);
            x.run(201);
            is(FAIL, x.found());
            x.run(-1);
            is(FAIL, x.found());
            x.clear();
            x.run(1);
            is(FAIL, x.found());
        });
        test("40 found: FINDINGS of calls leave it", () -> {
            SweepKeeper x = six8();
            once(x, FAIL_ACT, 1, 0, 0, 0);
            x.get(PAIR, 2);
            x.kind(PAIR);
            is(FAIL, x.found());
        });
        test("40 found: of the latest ACT, not of one before", () -> {
            SweepKeeper x = new SweepKeeper();
            x.act(FAIL_ACT, 1, 0, 0, 0);
            x.act(DROP, 0, 0, 0, 0);
            x.run(2);
            is(FAIL, x.found());
            x.run(1);
            is(0, x.found());
        });
        test("40 found: load() and undoStep() leave it", () -> {
            SweepKeeper x = new SweepKeeper();
            x.image();
            x.step(0);
            x.act(FAIL_ACT, 1, 0, 0, 0);
            x.run(1);
            x.undoStep();
            is(FAIL, x.found());
            x.load();
            is(FAIL, x.found());
        });
    }

    // "What REGISTER r has. UNKNOWN."; "REGISTERS [..] keep nothing alive"
    private static void register() {
        int[] unknown = {-1, 8, MIN, MAX};
        for (int r : unknown) {
            test("41 register: there is no REGISTER " + r, () -> refused(UNKNOWN, x -> x.register(r)));
        }
        test("41 register: NONE at first, the first and the last", () -> {
            SweepKeeper x = new SweepKeeper();
            is(NONE, x.register(0));
            is(NONE, x.register(7));
        });
        test("41 register: R0 and R7 have what was made", () -> {
            SweepKeeper x = new SweepKeeper();
            x.act(MAKE, 7, PAIR, 0, 0);
            x.act(MAKE, 0, PAIR, 0, 0);
            x.run(2);
            is(1, x.register(0));
            is(NONE, x.register(1));
            is(NONE, x.register(6));
            is(0, x.register(7));
        });
        test("41 register: keeps nothing alive, and has the HANDLE yet", () -> {
            SweepKeeper x = new SweepKeeper();
            once(x, MAKE, 7, PAIR, 0, 0);
            is(1, x.cycle());
            is(0, x.register(7));
            is(telling(GONE), x.kind(0));
        });
        test("41 register: MARKS nothing as a CYCLE BEGINS", () -> {
            SweepKeeper x = six8();
            once(x, MAKE, 7, PAIR, 0, 0);
            x.step(0);
            is(0, x.marked(NEXT));
        });
        test("41 register: leaves finding()", () -> {
            SweepKeeper x = six8();
            x.shelf(0, 8);
            x.register(0);
            is(BEYOND, x.finding());
        });
    }
}
