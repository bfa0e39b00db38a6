/** Promises 17 to 22: roots, copies of links, and shelves. */
public final class RootBoundariesTest extends Boundary {
    public static void main(String[] args) {
        root();
        rootWhileMarking();
        rootOf();
        copyHandlesAndKinds();
        copyNumbers();
        copyPlaces();
        copyOneByOne();
        copyWhileMarking();
        copied();
        shelve();
        shelveStores();
        shelf();
        end(17, 22);
    }

    // "ROOT r becomes t (NONE): what it had. UNKNOWN. FINDINGS: GONE."; "ROOTS 0 .. 23"
    private static void root() {
        int[] noRoots = {-1, 24, MIN, MAX};
        for (int r : noRoots) {
            test("17 root: there is no ROOT " + r, () -> refused(UNKNOWN, x -> x.root(r, PAIR)));
        }
        targets("17 root", (x, t) -> x.root(0, t));
        test("17 root: the first, 0, and the last, 23", () -> {
            SweepKeeper x = six();
            is(PAIR, x.root(0, ROW));
            is(NONE, x.root(23, TABLE));
            is(ROW, x.rootOf(0));
            is(TABLE, x.rootOf(23));
            is(0, x.finding());
        });
        test("17 root: t NONE is taken", () -> {
            SweepKeeper x = six();
            is(PAIR, x.root(0, NONE));
            is(NONE, x.rootOf(0));
            is(NONE, x.root(0, NONE));
            is(0, x.finding());
        });
        test("17 root: what it has already is taken again", () -> {
            SweepKeeper x = six();
            is(PAIR, x.root(0, PAIR));
            is(PAIR, x.rootOf(0));
        });
        test("17 root: all 24 may have the same CELL", () -> {
            SweepKeeper x = new SweepKeeper();
            x.make(PAIR, 0);
            for (int r = 0; r < 24; r++) {
                is(NONE, x.root(r, 0));
            }
            is(0, x.cycle());
        });
        test("17 root: no such ROOT is told ahead of t GONE", () -> refused(UNKNOWN, x -> x.root(24, BACK)));
        test("17 root: t UNKNOWN in a ROOT that there is", () -> refused(UNKNOWN, x -> x.root(23, NEXT)));
        test("17 root: the last one keeps a CELL alive", () -> {
            SweepKeeper x = new SweepKeeper();
            x.root(23, x.make(PAIR, 0));
            is(0, x.cycle());
            x.root(23, NONE);
            is(1, x.cycle());
        });
    }

    /** PAIR 0 in root 0; PAIRS 1 and 2 in none; a cycle is under way. */
    private static SweepKeeper marking() {
        SweepKeeper x = new SweepKeeper();
        x.make(PAIR, 0);
        x.make(PAIR, 0);
        x.make(PAIR, 0);
        x.root(0, 0);
        x.step(0);
        return x;
    }

    // "a ROOT that is set: what it has then (SET)"
    private static void rootWhileMarking() {
        test("17 root: while MARKING what it has then is MARKED", () -> {
            SweepKeeper x = marking();
            x.root(23, 2);
            is(2, x.marked(2));
        });
        test("17 root: while MARKING what it had is not MARKED by that", () -> {
            SweepKeeper x = new SweepKeeper();
            x.make(PAIR, 0);
            x.make(PAIR, 0);
            x.root(0, 0);
            x.step(0);
            x.root(0, NONE);
            x.root(1, 1);
            is(1, x.marked(0));
            is(2, x.marked(1));
            is(2, x.about(10));
        });
        test("17 root: while MARKING NONE MARKS nothing", () -> {
            SweepKeeper x = marking();
            x.root(5, NONE);
            x.root(0, NONE);
            is(1, x.about(10));
        });
        test("17 root: while MARKING one with a FINDING MARKS nothing", () -> finds(() -> {
            SweepKeeper x = six();
            x.step(0);
            return x;
        }, GONE, x -> x.root(9, BACK)));
        test("17 root: while none is under way nothing is MARKED", () -> {
            SweepKeeper x = six();
            x.root(9, TABLE);
            is(0, x.marked(TABLE));
        });
    }

    // "What ROOT r has. UNKNOWN."
    private static void rootOf() {
        int[] noRoots = {-1, 24, MIN, MAX};
        for (int r : noRoots) {
            test("18 rootOf: there is no ROOT " + r, () -> refused(UNKNOWN, x -> x.rootOf(r)));
        }
        test("18 rootOf: the first and the last", () -> {
            SweepKeeper x = six();
            x.root(23, TABLE);
            is(PAIR, x.rootOf(0));
            is(NONE, x.rootOf(22));
            is(TABLE, x.rootOf(23));
        });
        test("18 rootOf: MARKS nothing while MARKING, and leaves finding()", () -> {
            SweepKeeper x = marking();
            x.shelf(0, 8);
            is(NONE, x.rootOf(1));
            is(0, x.rootOf(0));
            is(BEYOND, x.finding());
            is(1, x.about(10));
        });
    }

    /** As six(); the ROW's links lead to PAIR, BYTES, TABLE. */
    private static SweepKeeper rows() {
        SweepKeeper x = six();
        x.link(ROW, 0, PAIR);
        x.link(ROW, 1, BYTES);
        x.link(ROW, 2, TABLE);
        return x;
    }

    // "UNKNOWN. FINDINGS: GONE (h, then g), KIND (h, then g: no ROW)"
    private static void copyHandlesAndKinds() {
        handles("19 copy: h", (x, h) -> x.copy(h, 0, ROW, 0, 1));
        handles("19 copy: g", (x, g) -> x.copy(x.about(2) == 0 ? 0 : ROW, 0, g, 0, 1));
        int[] others = {PAIR, BYTES, WEAK, WATCHED};
        for (int h : others) {
            test("19 copy: h of KIND " + h + " is no ROW", () -> finds(KIND, x -> x.copy(h, 0, ROW, 0, 1)));
            test("19 copy: g of KIND " + h + " is no ROW", () -> finds(KIND, x -> x.copy(ROW, 0, h, 0, 1)));
        }
        test("19 copy: a TABLE is a ROW, too, on either side", () -> {
            SweepKeeper x = rows();
            is(2, x.copy(ROW, 1, TABLE, 0, 2));
            is(BYTES, x.get(TABLE, 0));
            is(TABLE, x.get(TABLE, 1));
            is(1, x.copy(TABLE, 1, ROW, 0, 1));
            is(TABLE, x.get(ROW, 0));
        });
        test("19 copy: g UNKNOWN is told ahead of h GONE", () -> refused(UNKNOWN, x -> x.copy(BACK, 0, NEXT, 0, -1)));
        test("19 copy: h UNKNOWN is told ahead of g GONE", () -> refused(UNKNOWN, x -> x.copy(NEXT, 0, BACK, 0, -1)));
        test("19 copy: g GONE is told ahead of h's KIND", () -> finds(GONE, x -> x.copy(PAIR, 0, BACK, 0, 1)));
        test("19 copy: h GONE is told ahead of g's KIND", () -> finds(GONE, x -> x.copy(BACK, 0, PAIR, 0, 1)));
        test("19 copy: h's KIND is told ahead of SIZE", () -> finds(KIND, x -> x.copy(PAIR, 0, ROW, 0, -1)));
        test("19 copy: g's KIND is told ahead of SIZE", () -> finds(KIND, x -> x.copy(ROW, 0, PAIR, 0, -1)));
        test("19 copy: KIND is told ahead of BEYOND", () -> finds(KIND, x -> x.copy(ROW, 9, PAIR, 9, 1)));
        test("19 copy: GONE is told though n = 0", () -> finds(GONE, x -> x.copy(BACK, 0, ROW, 0, 0)));
        test("19 copy: KIND is told though n = 0", () -> finds(KIND, x -> x.copy(ROW, 0, BYTES, 0, 0)));
    }

    // "SIZE (n below 0)"; "with n = 0 none is looked at"; ": n"
    private static void copyNumbers() {
        test("19 copy: n -1 is SIZE", () -> finds(SIZE, x -> x.copy(ROW, 0, TABLE, 0, -1)));
        test("19 copy: n as low as an int goes is SIZE", () -> finds(SIZE, x -> x.copy(ROW, 0, TABLE, 0, MIN)));
        test("19 copy: SIZE is told ahead of BEYOND", () -> finds(SIZE, x -> x.copy(ROW, 9, TABLE, -1, -1)));
        int[][] places = {{0, 0}, {3, 2}, {-1, -1}, {MIN, MAX}, {MAX, MIN}};
        for (int[] place : places) {
            test("19 copy: n = 0 does not look at places " + place[0] + " and " + place[1], () -> {
                SweepKeeper x = rows();
                x.shelf(0, 8);
                is(0, x.copy(ROW, place[0], TABLE, place[1], 0));
                is(0, x.finding());
                is(0, x.copied());
                is(NONE, x.get(TABLE, 0));
            });
        }
        test("19 copy: n = 0 of a ROW of none", () -> {
            SweepKeeper x = new SweepKeeper();
            x.make(ROW, 0);
            is(0, x.copy(0, 0, 0, 0, 0));
            is(0, x.finding());
        });
        test("19 copy: n = 1 of a ROW of none is BEYOND", () -> {
            SweepKeeper x = new SweepKeeper();
            x.make(ROW, 0);
            x.make(ROW, 1);
            is(telling(BEYOND), x.copy(0, 0, 1, 0, 1));
            is(0, x.copied());
            is(telling(BEYOND), x.copy(1, 0, 0, 0, 1));
            is(0, x.copied());
        });
        test("19 copy: all 300 LINKS of a ROW", () -> {
            SweepKeeper x = sized(1000);
            x.make(ROW, 300);
            x.make(ROW, 300);
            x.link(0, 0, 0);
            x.link(0, 299, 1);
            is(300, x.copy(0, 0, 1, 0, 300));
            is(0, x.get(1, 0));
            is(1, x.get(1, 299));
            is(telling(BEYOND), x.copy(0, 0, 1, 0, 301));
            is(300, x.copied());
        });
    }

    // "up to the first place of either that there is not (what came ahead of that stays; a place below 0 is one [..])"
    private static void copyPlaces() {
        test("19 copy: up to the last place of both", () -> {
            SweepKeeper x = rows();
            is(2, x.copy(ROW, 1, TABLE, 0, 2));
            is(0, x.finding());
        });
        test("19 copy: one more than h has, what came stays", () -> {
            SweepKeeper x = rows();
            is(telling(BEYOND), x.copy(ROW, 2, TABLE, 0, 2));
            is(BEYOND, x.finding());
            is(1, x.copied());
            is(TABLE, x.get(TABLE, 0));
            is(NONE, x.get(TABLE, 1));
        });
        test("19 copy: one more than g has, what came stays", () -> {
            SweepKeeper x = rows();
            is(telling(BEYOND), x.copy(ROW, 0, TABLE, 0, 3));
            is(2, x.copied());
            is(PAIR, x.get(TABLE, 0));
            is(BYTES, x.get(TABLE, 1));
        });
        test("19 copy: n as high as an int goes", () -> {
            SweepKeeper x = rows();
            is(telling(BEYOND), x.copy(ROW, 0, TABLE, 0, MAX));
            is(2, x.copied());
            is(BYTES, x.get(TABLE, 1));
        });
        int[][] none = {{-1, 0}, {0, -1}, {-1, -1}, {MIN, 0}, {0, MIN}, {3, 0}, {0, 2}, {MAX, 0}, {0, MAX}, {MAX, MAX}};
        for (int[] place : none) {
            test("19 copy: from " + place[0] + " to " + place[1] + " none comes", () -> {
                SweepKeeper x = rows();
                is(telling(BEYOND), x.copy(ROW, place[0], TABLE, place[1], 2));
                is(BEYOND, x.finding());
                is(0, x.copied());
                is(NONE, x.get(TABLE, 0));
                is(NONE, x.get(TABLE, 1));
            });
            test("19 copy: from " + place[0] + " to " + place[1] + " none comes, n as high as an int goes", () -> {
                SweepKeeper x = rows();
                is(telling(BEYOND), x.copy(ROW, place[0], TABLE, place[1], MAX));
                is(0, x.copied());
                is(NONE, x.get(TABLE, 0));
                is(NONE, x.get(TABLE, 1));
            });
        }
        test("19 copy: a place below 0 does not come to 0 one by one", () -> {
            SweepKeeper x = rows();
            is(telling(BEYOND), x.copy(ROW, -1, TABLE, 0, 2));
            is(0, x.copied());
            is(NONE, x.get(TABLE, 1));
        });
    }

    // "or the same, [..] one by one, each as by link()"
    private static void copyOneByOne() {
        test("19 copy: the same ROW, one place up, takes what came before", () -> {
            SweepKeeper x = rows();
            is(2, x.copy(ROW, 0, ROW, 1, 2));
            for (int i = 0; i < 3; i++) {
                is(PAIR, x.get(ROW, i));
            }
        });
        test("19 copy: the same ROW, one place down", () -> {
            SweepKeeper x = rows();
            is(2, x.copy(ROW, 1, ROW, 0, 2));
            is(BYTES, x.get(ROW, 0));
            is(TABLE, x.get(ROW, 1));
            is(TABLE, x.get(ROW, 2));
        });
        test("19 copy: the same ROW onto itself", () -> {
            SweepKeeper x = rows();
            is(3, x.copy(ROW, 0, ROW, 0, 3));
            is(PAIR, x.get(ROW, 0));
            is(TABLE, x.get(ROW, 2));
        });
        test("19 copy: the same ROW beyond its end", () -> {
            SweepKeeper x = rows();
            is(telling(BEYOND), x.copy(ROW, 0, ROW, 2, 2));
            is(1, x.copied());
            is(PAIR, x.get(ROW, 2));
        });
        test("19 copy: a LINK that is NONE comes as NONE", () -> {
            SweepKeeper x = rows();
            is(1, x.copy(TABLE, 0, ROW, 0, 1));
            is(NONE, x.get(ROW, 0));
        });
        test("19 copy: KEYS stay", () -> {
            SweepKeeper x = rows();
            x.key(TABLE, 0, 9);
            x.copy(ROW, 0, TABLE, 0, 2);
            is(0, x.find(TABLE, 9));
            is(1, x.find(TABLE, 0));
        });
    }

    /** ROW 0 of 2 leads to PAIRS 2, 3; ROW 1 of 2 to PAIRS 4, 5; a root has PAIR 6 alone; a cycle is under way. */
    private static SweepKeeper rowsWhileMarking() {
        SweepKeeper x = new SweepKeeper();
        x.make(ROW, 2);
        x.make(ROW, 2);
        for (int h = 2; h < 7; h++) {
            x.make(PAIR, 0);
        }
        for (int h = 2; h < 6; h++) {
            x.link(h / 2 - 1, h % 2, h);
        }
        x.root(0, 6);
        x.step(0);
        return x;
    }

    private static void copyWhileMarking() {
        test("19 copy: while MARKING each LINK MARKS what it led to, then what it leads to", () -> {
            SweepKeeper x = rowsWhileMarking();
            is(2, x.copy(0, 0, 1, 0, 2));
            is(2, x.marked(4));
            is(3, x.marked(2));
            is(4, x.marked(5));
            is(5, x.marked(3));
        });
        test("19 copy: while MARKING up to BEYOND, and no further", () -> {
            SweepKeeper x = rowsWhileMarking();
            is(telling(BEYOND), x.copy(0, 1, 1, 0, 2));
            is(2, x.marked(4));
            is(3, x.marked(3));
            is(0, x.marked(5));
            is(0, x.marked(2));
        });
        test("19 copy: while MARKING n = 0 MARKS nothing", () -> {
            SweepKeeper x = rowsWhileMarking();
            x.copy(0, 0, 1, 0, 0);
            is(1, x.about(10));
        });
        test("19 copy: while MARKING one with KIND MARKS nothing",
            () -> finds(RootBoundariesTest::rowsWhileMarking, KIND, x -> x.copy(0, 0, 6, 0, 1)));
    }

    // "How many LINKS came by the latest copy() or COPY that was not refused (0 with GONE, KIND, SIZE). 0 ahead of
    // one."
    private static void copied() {
        test("20 copied: 0 ahead of a copy()", () -> is(0, six().copied()));
        test("20 copied: as many as came", () -> {
            SweepKeeper x = rows();
            x.copy(ROW, 0, TABLE, 0, 2);
            is(2, x.copied());
        });
        test("20 copied: a refused copy() leaves it", () -> {
            SweepKeeper x = rows();
            x.copy(ROW, 0, TABLE, 0, 2);
            x.copy(NEXT, 0, TABLE, 0, 1);
            x.copy(ROW, 0, NONE, 0, 1);
            is(2, x.copied());
        });
        int[][] none = {{BACK, ROW, 1}, {ROW, BACK, 1}, {PAIR, ROW, 1}, {ROW, BYTES, 1}, {ROW, TABLE, -1},
            {ROW, TABLE, 0}};
        String[] why = {"h GONE", "g GONE", "h's KIND", "g's KIND", "SIZE", "n = 0"};
        for (int k = 0; k < none.length; k++) {
            int[] call = none[k];
            test("20 copied: 0 with " + why[k], () -> {
                SweepKeeper x = rows();
                x.copy(ROW, 0, TABLE, 0, 2);
                x.copy(call[0], 0, call[1], 0, call[2]);
                is(0, x.copied());
            });
        }
        test("20 copied: 0 with BEYOND at the first place", () -> {
            SweepKeeper x = rows();
            x.copy(ROW, 0, TABLE, 0, 2);
            x.copy(ROW, 3, TABLE, 0, 2);
            is(0, x.copied());
        });
        test("20 copied: with BEYOND what came ahead of it", () -> {
            SweepKeeper x = rows();
            x.copy(ROW, 2, TABLE, 0, 2);
            is(1, x.copied());
        });
        test("20 copied: the ACT COPY, also with BEYOND and with GONE", () -> {
            SweepKeeper x = rows();
            x.act(4, ROW, 1, 0, 0);
            x.act(4, TABLE, 5, 0, 0);
            x.act(7, 1, 1, 5, 2);
            x.act(7, 1, 2, 5, 2);
            x.act(7, 1, 2, 6, 2);
            x.run(3);
            is(2, x.copied());
            x.run(1);
            is(1, x.copied());
            x.run(1);
            is(0, x.copied());
            is(GONE, x.found());
        });
        test("20 copied: other calls leave it", () -> {
            SweepKeeper x = rows();
            x.copy(ROW, 0, TABLE, 0, 2);
            x.link(ROW, 0, NONE);
            x.cycle();
            x.shelf(0, 8);
            is(2, x.copied());
            is(BEYOND, x.finding());
        });
        test("20 copied: load() and undoStep() leave it", () -> {
            SweepKeeper x = rows();
            x.image();
            x.step(0);
            x.copy(ROW, 0, TABLE, 0, 2);
            x.undoStep();
            is(2, x.copied());
            x.load();
            is(2, x.copied());
        });
    }

    // "Place i of SHELF s becomes t (NONE): 1. UNKNOWN. FINDINGS: GONE, BEYOND, STORE."
    private static void shelve() {
        int[] noShelves = {-1, 4, MIN, MAX};
        for (int s : noShelves) {
            test("21 shelve: there is no SHELF " + s, () -> refused(UNKNOWN, x -> x.shelve(s, 0, PAIR)));
        }
        targets("21 shelve", (x, t) -> x.shelve(0, 0, t));
        beyond("21 shelve", 8, (x, i) -> x.shelve(0, i, PAIR));
        beyond("21 shelve: NONE", 8, (x, i) -> x.shelve(3, i, NONE));
        int[] takes = {PAIR, ROW, BYTES, WEAK};
        for (int s = 0; s < 4; s++) {
            int shelf = s;
            test("21 shelve: the first and the last place of SHELF " + s, () -> {
                SweepKeeper x = six();
                is(1, x.shelve(shelf, 0, takes[shelf]));
                is(1, x.shelve(shelf, 7, takes[shelf]));
                is(takes[shelf], x.shelf(shelf, 0));
                is(takes[shelf], x.shelf(shelf, 7));
                is(NONE, x.shelf(shelf, 6));
                is(NONE, x.shelf((shelf + 1) % 4, 0));
                is(NONE, x.shelf((shelf + 3) % 4, 7));
                is(0, x.finding());
            });
        }
        test("21 shelve: NONE is taken by every SHELF", () -> {
            SweepKeeper x = six();
            for (int s = 0; s < 4; s++) {
                x.shelve(s, 7, takes[s]);
                is(1, x.shelve(s, 7, NONE));
                is(NONE, x.shelf(s, 7));
                is(1, x.shelve(s, 7, NONE));
            }
        });
        test("21 shelve: t UNKNOWN is told ahead of BEYOND", () -> refused(UNKNOWN, x -> x.shelve(0, 8, NEXT)));
        test("21 shelve: no such SHELF is told ahead of t GONE", () -> refused(UNKNOWN, x -> x.shelve(4, 8, BACK)));
        test("21 shelve: GONE is told ahead of BEYOND", () -> finds(GONE, x -> x.shelve(0, 8, BACK)));
        test("21 shelve: BEYOND is told ahead of STORE", () -> finds(BEYOND, x -> x.shelve(0, 8, ROW)));
        test("21 shelve: MARKS nothing while MARKING", () -> {
            SweepKeeper x = marking();
            x.shelve(0, 0, 2);
            x.shelve(0, 0, 1);
            is(1, x.about(10));
        });
    }

    // "take CELLS that are a PAIR (0), a ROW (1), BYTES (2), a WEAK (3) alone"
    private static void shelveStores() {
        boolean[][] takes = {{true, false, false, true, true, false}, {false, true, false, false, false, true},
            {false, false, true, false, false, false}, {false, false, false, true, true, false}};
        for (int s = 0; s < 4; s++) {
            for (int h = PAIR; h <= TABLE; h++) {
                int shelf = s;
                int kind = h;
                if (takes[s][h]) {
                    test("21 shelve: SHELF " + s + " takes KIND " + h, () -> {
                        SweepKeeper x = six();
                        is(1, x.shelve(shelf, 0, kind));
                        is(kind, x.shelf(shelf, 0));
                    });
                } else {
                    test("21 shelve: KIND " + h + " in SHELF " + s + " is STORE",
                        () -> finds(STORE, x -> x.shelve(shelf, 0, kind)));
                }
            }
        }
        test("21 shelve: STORE leaves what the place has", () -> {
            SweepKeeper x = six();
            x.shelve(2, 7, BYTES);
            is(telling(STORE), x.shelve(2, 7, PAIR));
            is(BYTES, x.shelf(2, 7));
        });
    }

    // "What place i of SHELF s has. UNKNOWN. FINDINGS: BEYOND."; "a CELL that is GIVEN BACK leaves them"
    private static void shelf() {
        int[] noShelves = {-1, 4, MIN, MAX};
        for (int s : noShelves) {
            test("22 shelf: there is no SHELF " + s, () -> refused(UNKNOWN, x -> x.shelf(s, 0)));
            test("22 shelf: no SHELF " + s + " is told ahead of BEYOND", () -> refused(UNKNOWN, x -> x.shelf(s, 8)));
        }
        for (int s = 0; s < 4; s++) {
            int shelf = s;
            beyond("22 shelf: of SHELF " + s, 8, (x, i) -> x.shelf(shelf, i));
        }
        test("22 shelf: NONE is no FINDING", () -> {
            SweepKeeper x = six();
            x.kind(BACK);
            is(NONE, x.shelf(3, 7));
            is(0, x.finding());
        });
        test("22 shelf: a SHELF keeps nothing alive, and what is GIVEN BACK leaves all its places", () -> {
            SweepKeeper x = six();
            x.make(WEAK, 0);
            x.shelve(0, 0, NEXT);
            x.shelve(0, 7, NEXT);
            x.shelve(3, 7, NEXT);
            x.shelve(3, 0, WEAK);
            is(1, x.cycle());
            is(NONE, x.shelf(0, 0));
            is(NONE, x.shelf(0, 7));
            is(NONE, x.shelf(3, 7));
            is(WEAK, x.shelf(3, 0));
        });
        test("22 shelf: what is GIVEN BACK stays there up to the END", () -> {
            SweepKeeper x = six();
            x.make(PAIR, 0);
            x.shelve(0, 0, NEXT);
            x.step(0);
            is(NEXT, x.shelf(0, 0));
            x.step(1000);
            is(NONE, x.shelf(0, 0));
        });
    }
}
