/** Promises 1 to 3: a new object, size() and make(), with the words on the heap and on making a cell. */
public final class HeapBoundariesTest extends Boundary {
    private static final int[] COUNTED = {ROW, BYTES, TABLE};
    private static final int[] UNCOUNTED = {PAIR, WEAK, WATCHED};

    public static void main(String[] args) {
        newObject();
        newObjectTellsNothing();
        sizeLimits();
        sizeFillsAndEmpties();
        sizeStartsAnew();
        sizeDropsWhatIsKept();
        makeKinds();
        makeCounts();
        makeAtFirst();
        makeInFreeInts();
        makeWhatRootsReach();
        makeUnderWay();
        makeTheLast();
        end(1, 3);
    }

    // "A HEAP of 256 ints; all as at first."
    private static void newObject() {
        test("1 new object: it has 256 ints, and all are free", () -> {
            SweepKeeper x = new SweepKeeper();
            is(256, x.about(0));
            is(256, x.about(1));
        });
        test("1 new object: every int is 0, from the first to the last", () -> {
            SweepKeeper x = new SweepKeeper();
            for (int k = 0; k < 256; k++) {
                is(0, x.word(k));
            }
        });
        test("1 new object: there is no int 256", () -> is(OUTSIDE, new SweepKeeper().word(256)));
        test("1 new object: it is full with 256 ints", () -> {
            SweepKeeper x = new SweepKeeper();
            is(0, x.make(ROW, 254));
            is(0, x.about(1));
            is(0, x.about(4));
        });
        test("1 new object: there is no CELL, and HANDLE 0 was never made", () -> {
            SweepKeeper x = new SweepKeeper();
            is(0, x.about(2));
            is(0, x.about(3));
            is(UNKNOWN, x.kind(0));
        });
        test("1 new object: the first CELL has HANDLE 0 and lies at place 0", () -> {
            SweepKeeper x = new SweepKeeper();
            is(0, x.make(PAIR, 0));
            is(0, x.place(0));
        });
        // "An object is used for at most 512 calls after it has been made"
        test("1 new object: the 512th call is answered as any other", () -> {
            SweepKeeper x = new SweepKeeper();
            x.make(BYTES, 300);
            for (int call = 2; call < 512; call++) {
                x.put(0, 299, call);
            }
            is(511 - 256, x.byteAt(0, 299));
        });
        test("1 new object: two objects share nothing", () -> {
            SweepKeeper x = six();
            SweepKeeper y = new SweepKeeper();
            is(0, y.about(2));
            is(0, y.rows());
            is(0, y.trace(11));
            y.make(BYTES, 0);
            is(PAIR, x.kind(0));
        });
    }

    private static void newObjectTellsNothing() {
        test("1 new object: all ROOTS have NONE", () -> {
            SweepKeeper x = new SweepKeeper();
            for (int r = 0; r < 24; r++) {
                is(NONE, x.rootOf(r));
            }
        });
        test("1 new object: all places of all SHELVES have NONE", () -> {
            SweepKeeper x = new SweepKeeper();
            for (int place = 0; place < 32; place++) {
                is(NONE, x.shelf(place / 8, place % 8));
            }
        });
        test("1 new object: all REGISTERS have NONE", () -> {
            SweepKeeper x = new SweepKeeper();
            for (int r = 0; r < 8; r++) {
                is(NONE, x.register(r));
            }
        });
        test("1 new object: about() tells 0 of all but its ints", () -> {
            SweepKeeper x = new SweepKeeper();
            for (int what = 2; what < 16; what++) {
                is(0, x.about(what));
            }
            is(0, x.phase());
        });
        test("1 new object: THE PAPER is empty", () -> {
            SweepKeeper x = new SweepKeeper();
            is(0, x.rows());
            is(UNKNOWN, x.row(0));
            is(NOT, x.check());
        });
        test("1 new object: THE PROGRAM is empty", () -> is(NOT, new SweepKeeper().run(0)));
        test("1 new object: there is no TELLING", () -> is(NONE, new SweepKeeper().told(0, 0)));
        test("1 new object: there is no IMAGE", () -> is(NOT, new SweepKeeper().load()));
        test("1 new object: there is nothing to undo", () -> is(NOT, new SweepKeeper().undoStep()));
        test("1 new object: finding(), copied(), found() are 0", () -> {
            SweepKeeper x = new SweepKeeper();
            is(0, x.finding());
            is(0, x.copied());
            is(0, x.found());
        });
        test("1 new object: no body was done", () -> {
            SweepKeeper x = new SweepKeeper();
            for (int b = 0; b < 14; b++) {
                is(0, x.trace(b));
            }
        });
    }

    // "The HEAP has n ints (16 .. 4000) [..] OUTSIDE."
    private static void sizeLimits() {
        int[] taken = {16, 17, 255, 257, 3999, 4000};
        for (int n : taken) {
            test("2 size: " + n + " is taken", () -> {
                SweepKeeper x = new SweepKeeper();
                is(1, x.size(n));
                is(n, x.about(0));
                is(n, x.about(1));
                is(0, x.word(n - 1));
                is(OUTSIDE, x.word(n));
            });
        }
        int[] outside = {15, 4001, 0, -1, -16, MIN, MAX};
        for (int n : outside) {
            test("2 size: " + n + " is OUTSIDE", () -> refused(OUTSIDE, x -> x.size(n)));
        }
        test("2 size: a refused one leaves THE IMAGE and what undoStep() has", () -> {
            SweepKeeper x = six();
            x.image();
            x.step(0);
            is(OUTSIDE, x.size(15));
            is(OUTSIDE, x.size(4001));
            is(1, x.undoStep());
            is(1, x.load());
        });
    }

    private static void sizeFillsAndEmpties() {
        test("2 size: the least is full with 16 ints", () -> {
            SweepKeeper x = sized(16);
            x.root(0, x.make(ROW, 14));
            is(0, x.about(1));
            is(telling(ROOM), x.make(ROW, 0));
        });
        test("2 size: the most is full with 4000 ints", () -> {
            SweepKeeper x = sized(4000);
            for (int r = 0; r < 13; r++) {
                x.root(r, x.make(ROW, 300));
            }
            is(74, x.about(1));
            is(13, x.make(ROW, 72));
            is(0, x.about(1));
            is(NONE, x.word(3999));
            is(0, x.about(4));
        });
        test("2 size: all ints of a heap that was full are 0 again", () -> {
            SweepKeeper x = sized(300);
            x.make(ROW, 298);
            x.size(300);
            for (int k = 0; k < 300; k++) {
                is(0, x.word(k));
            }
        });
        test("2 size: what lay behind a smaller heap is 0 when it grows again", () -> {
            SweepKeeper x = sized(100);
            x.make(ROW, 98);
            x.size(16);
            x.size(100);
            for (int k = 0; k < 100; k++) {
                is(0, x.word(k));
            }
        });
        test("2 size: the same size starts anew, too", () -> {
            SweepKeeper x = six();
            is(1, x.size(256));
            is(256, x.about(1));
            is(UNKNOWN, x.kind(0));
        });
        test("2 size: behind 500 CELLS the next one has HANDLE 0", () -> {
            SweepKeeper x = fiveHundred();
            is(telling(ROOM), x.make(PAIR, 0));
            x.size(16);
            is(0, x.make(PAIR, 0));
        });
    }

    // "and all is as at first (but trace())"
    private static void sizeStartsAnew() {
        test("2 size: HANDLES that were made are UNKNOWN, not GONE", () -> {
            SweepKeeper x = six();
            x.size(20);
            is(UNKNOWN, x.kind(0));
            is(UNKNOWN, x.kind(BACK));
            is(0, x.make(PAIR, 0));
        });
        test("2 size: ROOTS have NONE", () -> {
            SweepKeeper x = six();
            x.root(23, 0);
            x.size(20);
            for (int r = 0; r < 24; r++) {
                is(NONE, x.rootOf(r));
            }
        });
        test("2 size: SHELVES have NONE", () -> {
            SweepKeeper x = six();
            x.shelve(0, 0, PAIR);
            x.shelve(3, 7, WEAK);
            x.size(20);
            is(NONE, x.shelf(0, 0));
            is(NONE, x.shelf(3, 7));
        });
        test("2 size: THE PROGRAM is empty, its REGISTERS have NONE, and nothing was done", () -> {
            SweepKeeper x = six();
            x.act(4, 5, 7, 0, 0);
            x.act(10, 0, 0, 0, 0);
            x.act(8, 0, 0, 0, 0);
            x.run(2);
            x.size(20);
            is(NONE, x.register(7));
            for (int what = 12; what < 16; what++) {
                is(0, x.about(what));
            }
            is(NOT, x.run(1));
        });
        test("2 size: the CYCLE under way is gone", () -> {
            SweepKeeper x = six();
            x.step(1);
            x.size(20);
            is(0, x.phase());
            is(0, x.about(10));
            is(0, x.about(11));
            x.root(0, x.make(PAIR, 0));
            is(0, x.marked(0));
            is(2, x.step(9));
        });
        test("2 size: THE PAPER is empty", () -> {
            SweepKeeper x = six();
            x.size(20);
            is(0, x.rows());
            is(UNKNOWN, x.row(0));
            is(UNKNOWN, x.forge(0, 0));
            is(0, x.plain());
            is(NOT, x.check());
        });
        test("2 size: no CYCLE ENDED, and there is no TELLING", () -> {
            SweepKeeper x = six();
            x.weaken(WATCHED, x.make(PAIR, 0));
            x.root(PAIR, NONE);
            x.cycle();
            is(5, x.about(7));
            is(1, x.about(9));
            x.size(20);
            for (int what = 2; what < 12; what++) {
                is(0, x.about(what));
            }
            is(NONE, x.told(0, 0));
        });
        test("2 size: nothing has moved", () -> {
            SweepKeeper x = sized(20);
            x.make(PAIR, 0);
            x.root(0, x.make(PAIR, 0));
            x.cycle();
            is(3, x.moved(1));
            x.size(20);
            x.make(PAIR, 0);
            x.make(PAIR, 0);
            is(0, x.moved(1));
        });
    }

    // "THE IMAGE and what undoStep() has are gone, too"
    private static void sizeDropsWhatIsKept() {
        test("2 size: THE IMAGE is gone", () -> {
            SweepKeeper x = six();
            x.image();
            x.size(256);
            is(NOT, x.load());
        });
        test("2 size: what undoStep() has is gone", () -> {
            SweepKeeper x = six();
            x.step(0);
            x.size(256);
            is(NOT, x.undoStep());
        });
        test("2 size: finding(), copied(), found() are 0", () -> {
            SweepKeeper x = six();
            x.copy(ROW, 0, ROW, 0, 3);
            x.act(10, 0, 0, 0, 0);
            x.run(1);
            x.shelf(0, 8);
            x.size(256);
            is(0, x.finding());
            is(0, x.copied());
            is(0, x.found());
        });
        test("2 size: trace() stays", () -> {
            SweepKeeper x = six();
            x.measure(TABLE);
            x.size(256);
            is(1, x.trace(2));
            is(1, x.trace(3));
            is(1, x.trace(11));
        });
    }

    // "OUTSIDE: KIND, n above 300 (of these)."
    private static void makeKinds() {
        int[] noKinds = {-1, 6, 7, 8, MIN, MAX};
        for (int kind : noKinds) {
            test("3 make: KIND " + kind + " is OUTSIDE", () -> refused(OUTSIDE, x -> x.make(kind, 0)));
        }
        for (int kind = PAIR; kind <= TABLE; kind++) {
            int k = kind;
            test("3 make: KIND " + kind + " is made", () -> {
                SweepKeeper x = new SweepKeeper();
                is(0, x.make(k, 0));
                is(k, x.kind(0));
            });
        }
        test("3 make: KIND 6 with n below 0 is OUTSIDE ahead of SIZE", () -> refused(OUTSIDE, x -> x.make(6, -1)));
        test("3 make: KIND -1 with n below 0 is OUTSIDE ahead of SIZE", () -> refused(OUTSIDE, x -> x.make(-1, MIN)));
    }

    // "n is of ROWS, BYTES, TABLES alone, else not looked at"; "of others n (0 .. 300)"; "4 SIZE: n below 0"
    private static void makeCounts() {
        int[] most = {0, 302, 77, 0, 0, 602};
        for (int kind : COUNTED) {
            String of = "3 make: of KIND " + kind + " n ";
            test(of + "301 is OUTSIDE", () -> refused(OUTSIDE, x -> x.make(kind, 301)));
            test(of + "as high as an int goes is OUTSIDE", () -> refused(OUTSIDE, x -> x.make(kind, MAX)));
            test(of + "-1 is SIZE", () -> finds(SIZE, x -> x.make(kind, -1)));
            test(of + "as low as an int goes is SIZE", () -> finds(SIZE, x -> x.make(kind, MIN)));
            test(of + "0 is made, of two ints", () -> {
                SweepKeeper x = new SweepKeeper();
                is(0, x.make(kind, 0));
                is(254, x.about(1));
                is(0, x.word(1));
            });
            test(of + "300 is made", () -> {
                SweepKeeper x = sized(1000);
                is(0, x.make(kind, 300));
                is(1000 - most[kind], x.about(1));
                is(300, x.word(1));
            });
        }
        int[] others = {-1, 301, MIN, MAX};
        for (int kind : UNCOUNTED) {
            for (int n : others) {
                test("3 make: of KIND " + kind + " n " + n + " is not looked at", () -> {
                    SweepKeeper x = new SweepKeeper();
                    is(0, x.make(kind, n));
                    is(0, x.finding());
                    is(kind == WATCHED ? 252 : 253, x.about(1));
                });
            }
        }
        test("3 make: SIZE in a full heap is told ahead of ROOM", () -> {
            SweepKeeper x = sized(16);
            x.root(0, x.make(ROW, 14));
            is(telling(SIZE), x.make(ROW, -1));
        });
        test("3 make: OUTSIDE in a full heap is told ahead of ROOM", () -> {
            SweepKeeper x = sized(16);
            x.root(0, x.make(ROW, 14));
            is(OUTSIDE, x.make(ROW, 301));
        });
        int[] ints = {2, 3, 3, 3, 3, 4, 4, 4, 4, 5};
        for (int n = 0; n < ints.length; n++) {
            int bytes = n;
            test("3 make: " + n + " BYTES take " + ints[n] + " ints", () -> {
                SweepKeeper x = new SweepKeeper();
                x.make(BYTES, bytes);
                is(256 - ints[bytes], x.about(1));
            });
        }
    }

    // "NUMBER (0 at first)", "n KEYS (0 at first)", "n bytes (0 at first)", "or NONE (at first)"
    private static void makeAtFirst() {
        int[][] due = {{0, NONE, NONE}, {1, 2, NONE, NONE}, {2, 5, 0, 0}, {3, NONE, NONE}, {4, NONE, NONE, 0},
            {5, 2, NONE, NONE, 0, 0}};
        int[] counts = {0, 2, 5, 0, 0, 2};
        for (int kind = PAIR; kind <= TABLE; kind++) {
            int k = kind;
            test("3 make: the ints of KIND " + kind + " at first", () -> {
                SweepKeeper x = new SweepKeeper();
                x.make(k, counts[k]);
                is(256 - due[k].length, x.about(1));
                for (int i = 0; i < due[k].length; i++) {
                    is(due[k][i], x.word(i));
                }
            });
            test("3 make: the ints of KIND " + kind + " at first, where others lay before", () -> {
                SweepKeeper x = sized(16);
                int table = x.make(TABLE, 7);
                for (int i = 0; i < 7; i++) {
                    x.key(table, i, 77);
                }
                x.cycle();
                x.make(k, counts[k]);
                is(8 + k, x.word(0));
                for (int i = 1; i < due[k].length; i++) {
                    is(due[k][i], x.word(i));
                }
            });
        }
        test("3 make: the first int is 8 times the HANDLE, and the KIND, up to HANDLE 499", () -> {
            SweepKeeper x = fiveHundred();
            is(499 * 8, x.word(499 * 3));
        });
        test("3 make: a HANDLE is never given twice", () -> {
            SweepKeeper x = new SweepKeeper();
            x.make(PAIR, 0);
            x.cycle();
            is(1, x.make(PAIR, 0));
            is(0, x.place(1));
            is(telling(GONE), x.kind(0));
        });
        test("3 make: a call that is refused or has a FINDING takes no HANDLE", () -> {
            SweepKeeper x = sized(16);
            x.make(6, 0);
            x.make(ROW, 301);
            x.make(ROW, -1);
            x.make(ROW, 15);
            is(0, x.make(PAIR, 0));
        });
    }

    // "TO MAKE a CELL with more ints than are free"
    private static void makeInFreeInts() {
        test("3 make: just as many ints as are free need no CYCLE", () -> {
            SweepKeeper x = sized(16);
            x.make(ROW, 8);
            is(1, x.make(ROW, 4));
            is(0, x.about(1));
            is(0, x.about(4));
            is(ROW, x.kind(0));
        });
        test("3 make: one int more than are free needs a CYCLE", () -> {
            SweepKeeper x = sized(16);
            x.make(ROW, 8);
            is(1, x.make(ROW, 5));
            is(1, x.about(4));
            is(telling(GONE), x.kind(0));
            is(0, x.place(1));
        });
        test("3 make: its own ints alone, just N, in a new heap", () -> {
            SweepKeeper x = sized(16);
            is(0, x.make(ROW, 14));
            is(0, x.about(4));
        });
        test("3 make: its own ints alone, N + 1, are ROOM in a new heap",
            () -> finds(() -> sized(16), ROOM, x -> x.make(ROW, 15)));
        test("3 make: its own ints alone, N + 1, are ROOM though none is reached", () -> {
            SweepKeeper x = sized(16);
            x.make(PAIR, 0);
            is(telling(ROOM), x.make(ROW, 15));
            is(0, x.about(4));
            is(PAIR, x.kind(0));
        });
        test("3 make: its own ints alone, just N, where none is reached", () -> {
            SweepKeeper x = sized(16);
            x.make(PAIR, 0);
            is(1, x.make(ROW, 14));
            is(1, x.about(4));
            is(0, x.about(1));
        });
        test("3 make: the smallest CELL is ROOM in a full heap", () -> finds(() -> {
            SweepKeeper x = sized(16);
            x.root(0, x.make(ROW, 14));
            return x;
        }, ROOM, x -> x.make(BYTES, 0)));
        test("3 make: one int short of the smallest CELL is ROOM", () -> finds(() -> {
            SweepKeeper x = sized(16);
            x.root(0, x.make(ROW, 13));
            return x;
        }, ROOM, x -> x.make(ROW, 0)));
        test("3 make: ROOM again and again, and never a CYCLE", () -> {
            SweepKeeper x = sized(16);
            x.root(0, x.make(ROW, 12));
            for (int k = 0; k < 3; k++) {
                is(telling(ROOM), x.make(PAIR, 0));
                is(0, x.about(4));
            }
        });
        test("3 make: ROOM and then a smaller one that fits", () -> {
            SweepKeeper x = sized(16);
            x.root(0, x.make(ROW, 12));
            is(telling(ROOM), x.make(PAIR, 0));
            is(1, x.make(ROW, 0));
            is(0, x.finding());
        });
    }

    /** Of 16 ints: PAIR 0 in a root leads to ROW 1 of 2 and back by PAIR 2; PAIR 3 is not reached. */
    private static SweepKeeper reaching() {
        SweepKeeper x = sized(16);
        x.make(PAIR, 0);
        x.make(ROW, 2);
        x.make(PAIR, 0);
        x.make(PAIR, 0);
        x.root(23, 0);
        x.link(0, 0, 1);
        x.link(0, 1, 2);
        x.link(1, 1, 2);
        x.link(2, 1, 0);
        return x;
    }

    // "if those of all CELLS that ROOTS reach now, by LINKS, and its own are more than N: ROOM, and nothing is changed"
    private static void makeWhatRootsReach() {
        test("3 make: what ROOTS reach and its own, just N, each counted once in a ring", () -> {
            SweepKeeper x = reaching();
            is(4, x.make(ROW, 4));
            is(0, x.about(1));
            is(1, x.about(4));
            is(1, x.about(6));
        });
        test("3 make: what ROOTS reach and its own, N + 1, are ROOM",
            () -> finds(HeapBoundariesTest::reaching, ROOM, x -> x.make(ROW, 5)));
        test("3 make: one CELL in two ROOTS is counted once", () -> {
            SweepKeeper x = sized(16);
            x.root(0, x.make(ROW, 5));
            x.root(1, 0);
            x.make(PAIR, 0);
            is(2, x.make(ROW, 7));
        });
        test("3 make: a WEAK LINK reaches nothing", () -> {
            SweepKeeper x = sized(16);
            x.root(0, x.make(WEAK, 0));
            x.weaken(0, x.make(ROW, 9));
            is(2, x.make(ROW, 11));
            is(NONE, x.look(0));
        });
        test("3 make: LINK 0 of a WEAK reaches", () -> {
            SweepKeeper x = sized(16);
            x.root(0, x.make(WEAK, 0));
            x.link(0, 0, x.make(ROW, 9));
            is(telling(ROOM), x.make(ROW, 1));
            is(2, x.make(ROW, 0));
        });
        test("3 make: a REGISTER and a SHELF reach nothing", () -> {
            SweepKeeper x = sized(16);
            x.act(0, 0, ROW, 9, 0);
            x.run(1);
            x.shelve(1, 0, 0);
            is(1, x.make(ROW, 14));
            is(NONE, x.shelf(1, 0));
            is(0, x.register(0));
        });
        test("3 make: a KEY reaches nothing", () -> {
            SweepKeeper x = sized(16);
            x.root(0, x.make(TABLE, 1));
            x.key(0, 0, x.make(ROW, 9));
            is(2, x.make(ROW, 10));
        });
    }

    /** Of 16 ints: ROWS 0 and 1 of 4 links each; root 1 has 1, root 0 has 0 or NONE; a cycle is under way. */
    private static SweepKeeper underWay(int root0) {
        SweepKeeper x = sized(16);
        x.make(ROW, 4);
        x.make(ROW, 4);
        x.root(0, root0);
        x.root(1, 1);
        x.step(0);
        return x;
    }

    // "else the CYCLE under way is gone on with to its END, and if there is still no room a whole one is BEGUN and
    // ENDED"; "(It is MARKED as MADE only if a CYCLE is under way then.)"
    private static void makeUnderWay() {
        test("3 make: the END of the CYCLE under way is enough", () -> {
            SweepKeeper x = underWay(NONE);
            is(2, x.make(ROW, 5));
            is(1, x.about(4));
            is(0, x.phase());
            is(telling(GONE), x.kind(0));
        });
        test("3 make: behind that END there is still no room: a whole CYCLE more", () -> {
            SweepKeeper x = underWay(0);
            x.root(0, NONE);
            is(2, x.make(ROW, 5));
            is(2, x.about(4));
            is(0, x.phase());
            is(telling(GONE), x.kind(0));
        });
        test("3 make: no room behind that END by one int: a whole CYCLE more", () -> {
            SweepKeeper x = sized(16);
            x.make(BYTES, 0);
            x.root(0, x.make(ROW, 2));
            x.root(1, x.make(ROW, 4));
            x.step(0);
            x.root(0, NONE);
            // 4 ints are free; behind the end of the cycle under way 6 are.
            is(3, x.make(ROW, 5));
            is(2, x.about(4));
        });
        test("3 make: just room behind that END: no CYCLE more", () -> {
            SweepKeeper x = sized(16);
            x.make(BYTES, 0);
            x.root(0, x.make(ROW, 2));
            x.root(1, x.make(ROW, 4));
            x.step(0);
            x.root(0, NONE);
            is(3, x.make(ROW, 4));
            is(1, x.about(4));
            is(0, x.about(1));
            is(ROW, x.kind(1));
        });
        test("3 make: one that is made behind an END is not MARKED", () -> {
            SweepKeeper x = underWay(NONE);
            is(2, x.make(ROW, 5));
            is(0, x.marked(2));
            is(0, x.about(10));
        });
        test("3 make: one that fits while a CYCLE is under way is MARKED as MADE", () -> {
            SweepKeeper x = underWay(NONE);
            is(2, x.make(ROW, 2));
            is(2, x.marked(2));
            is(1, x.phase());
            is(0, x.about(4));
        });
        test("3 make: one that fits while none is under way is not MARKED", () -> {
            SweepKeeper x = sized(16);
            is(0, x.make(PAIR, 0));
            is(0, x.marked(0));
            is(0, x.phase());
        });
        test("3 make: ROOM while a CYCLE is under way lets it be",
            () -> finds(() -> underWay(0), ROOM, x -> x.make(ROW, 5)));
        test("3 make: what is MARKED but reached no more is not counted for ROOM", () -> {
            SweepKeeper x = underWay(0);
            x.root(0, NONE);
            x.root(1, NONE);
            is(2, x.make(ROW, 14));
            is(2, x.about(8));
        });
    }

    // "The 501st CELL (of all that were made, also those GIVEN BACK): ROOM, ahead of that."
    private static void makeTheLast() {
        test("3 make: the 500th CELL has HANDLE 499", () -> {
            SweepKeeper x = fiveHundred();
            is(500, x.about(2));
            is(499, x.register(0));
            is(PAIR, x.kind(499));
            is(UNKNOWN, x.kind(500));
        });
        test("3 make: the 501st CELL is ROOM, though 2500 ints are free", () -> {
            SweepKeeper x = fiveHundred();
            is(2500, x.about(1));
            is(telling(ROOM), x.make(PAIR, 0));
            is(ROOM, x.finding());
            is(500, x.about(2));
            is(500, x.about(3));
        });
        test("3 make: the 501st CELL is ROOM, though all were GIVEN BACK", () -> {
            SweepKeeper x = fiveHundred();
            is(500, x.cycle());
            is(telling(ROOM), x.make(PAIR, 0));
            is(500, x.about(2));
            is(0, x.about(3));
        });
        test("3 make: the 501st CELL is ROOM ahead of a CYCLE that would make ints free", () -> {
            SweepKeeper x = new SweepKeeper();
            x.act(0, 0, PAIR, 0, 0);
            x.run(200);
            x.run(200);
            x.run(100);
            // 85 pairs fit in, so the heap was emptied five times, and 75 lie in it.
            is(31, x.about(1));
            is(telling(ROOM), x.make(ROW, 30));
            is(5, x.about(4));
            is(75, x.about(3));
        });
        test("3 make: SIZE of the 501st is told ahead of ROOM", () -> is(telling(SIZE), fiveHundred().make(ROW, -1)));
        test("3 make: OUTSIDE of the 501st is told ahead of ROOM", () -> is(OUTSIDE, fiveHundred().make(ROW, 301)));
    }
}
