/** Promises 32 to 36: the paper, its numbers, and the check of it; the paper of PaperTest.written() is forged. */
public final class PaperBoundariesTest extends Boundary {
    private static final int K = PaperTest.K, FIRST = PaperTest.FIRST, SECOND = PaperTest.SECOND;
    private static final int THIRD = PaperTest.THIRD, F = PaperTest.F, BACK_AT = PaperTest.BACK, SUM = PaperTest.SUM;
    private static final int ROWS = SUM + 1;
    // Within a kept one.
    private static final int REASON = 1, ONE = 2, OTHER = 3, NUMBER = 4, COUNT = 5, LINK = 6;
    private static final int LINK_OF_SECOND = SECOND + LINK;

    public static void main(String[] args) {
        rows();
        row();
        rowsOfReasons();
        forge();
        plain();
        checkEmpty();
        checkForm();
        checkWhatLacks();
        checkRoots();
        checkHandles();
        checkReasons();
        checkNumbers();
        checkLinks();
        checkGivenBack();
        checkSum();
        checkGoes();
        end(32, 36);
    }

    private static SweepKeeper ofNothing() {
        SweepKeeper x = new SweepKeeper();
        x.cycle();
        return x;
    }

    private static SweepKeeper chainOf500() {
        SweepKeeper x = sized(4000);
        PaperTest.chainByRuns(x, 500);
        x.cycle();
        return x;
    }

    private static SweepKeeper back500() {
        SweepKeeper x = fiveHundred();
        x.cycle();
        return x;
    }

    // "THE PAPER, a row of numbers (empty ahead of the first END)"; "How many numbers THE PAPER has."
    private static void rows() {
        test("32 rows: 0 ahead of the first END", () -> is(0, new SweepKeeper().rows()));
        test("32 rows: 0 while the first CYCLE is under way", () -> {
            SweepKeeper x = chain(2);
            x.step(3);
            is(0, x.rows());
            x.step(1);
            is(27 + 2 * 8, x.rows());
        });
        test("32 rows: 27 of nothing, the fewest", () -> is(27, ofNothing().rows()));
        test("32 rows: with 500 kept", () -> is(27 + 500 * 8, chainOf500().rows()));
        test("32 rows: with 500 GIVEN BACK", () -> is(27 + 500, back500().rows()));
        test("32 rows: the most LINKS that a heap holds", () -> {
            SweepKeeper x = sized(4000);
            for (int r = 0; r < 13; r++) {
                x.root(r, x.make(ROW, 300));
            }
            x.root(13, x.make(ROW, 72));
            x.cycle();
            is(27 + 14 * 6 + 13 * 300 + 72, x.rows());
            is(NONE, x.check());
        });
        test("32 rows: the most numbers that a heap of 4000 ints comes to", () -> {
            SweepKeeper x = sized(4000);
            PaperTest.chainByRuns(x, 491);
            for (int r = 1; r < 9; r++) {
                x.root(r, x.make(ROW, 300));
            }
            x.root(9, x.make(ROW, 109));
            is(0, x.about(1));
            is(500, x.about(3));
            x.cycle();
            is(27 + 500 * 6 + 491 * 2 + 8 * 300 + 109, x.rows());
            is(NONE, x.check());
        });
        test("32 rows: stays while the next CYCLE is under way", () -> {
            SweepKeeper x = six();
            x.root(0, NONE);
            x.step(1);
            is(73, x.rows());
        });
        test("32 rows: written anew by each END, also shorter", () -> {
            SweepKeeper x = six();
            for (int r = 0; r < 6; r++) {
                x.root(r, NONE);
            }
            x.cycle();
            is(27 + 6, x.rows());
            x.cycle();
            is(27, x.rows());
        });
        test("32 rows: written by the END that make() needed", () -> {
            SweepKeeper x = sized(16);
            x.make(ROW, 14);
            x.make(PAIR, 0);
            is(28, x.rows());
        });
    }

    // "Number k of THE PAPER. UNKNOWN."
    private static void row() {
        int[] unknown = {-1, ROWS, MIN, MAX};
        for (int k : unknown) {
            test("33 row: there is no number " + k + " of " + ROWS,
                () -> refused(PaperTest::written, UNKNOWN, x -> x.row(k)));
        }
        int[] any = {-1, 0, 1, 26, MIN, MAX};
        for (int k : any) {
            test("33 row: there is no number " + k + " of an empty one",
                () -> refused(SweepKeeper::new, UNKNOWN, x -> x.row(k)));
        }
        test("33 row: the first and the last", () -> {
            SweepKeeper x = six();
            is(0, x.row(0));
            is(PaperTest.sumOf(x), x.row(72));
            is(UNKNOWN, x.row(73));
        });
        test("33 row: what a longer one had behind the last is not told", () -> {
            SweepKeeper x = six();
            for (int r = 0; r < 6; r++) {
                x.root(r, NONE);
            }
            x.cycle();
            x.cycle();
            is(UNKNOWN, x.row(27));
            is(UNKNOWN, x.row(72));
        });
        test("33 row: of nothing: no ROOTS, none kept, none GIVEN BACK, THE SUM", () -> {
            SweepKeeper x = ofNothing();
            int s = 1;
            for (int r = 0; r < 24; r++) {
                is(NONE, x.row(r));
                s = 31 * s + NONE;
            }
            is(0, x.row(24));
            is(0, x.row(25));
            is(31 * (31 * s), x.row(26));
        });
        test("33 row: ROOT 0 and ROOT 23", () -> {
            SweepKeeper x = new SweepKeeper();
            x.make(PAIR, 0);
            x.root(0, x.make(BYTES, 0));
            x.root(23, 0);
            x.cycle();
            is(1, x.row(0));
            is(NONE, x.row(22));
            is(0, x.row(23));
        });
        test("33 row: ROOTS and LINKS as they were at the END", () -> {
            SweepKeeper x = six();
            x.root(0, ROW);
            x.link(PAIR, 0, TABLE);
            x.make(PAIR, 0);
            is(PAIR, x.row(0));
            is(NONE, x.row(31));
            is(6, x.row(24));
        });
        test("33 row: 500 GIVEN BACK, rising, the last is 499", () -> {
            SweepKeeper x = back500();
            is(500, x.row(25));
            is(0, x.row(26));
            is(499, x.row(525));
            int s = 1;
            for (int r = 0; r < 24; r++) {
                s = 31 * s + NONE;
            }
            s = 31 * (31 * s) + 500;
            for (int h = 0; h < 500; h++) {
                s = 31 * s + h;
            }
            is(s, x.row(526));
        });
        test("33 row: 500 kept, by rising places", () -> {
            SweepKeeper x = chainOf500();
            is(500, x.row(24));
            is(0, x.row(25));
            is(500, x.row(25 + NUMBER));
            is(499, x.row(25 + 499 * 8));
            is(1, x.row(25 + 499 * 8 + NUMBER));
            is(0, x.row(25 + 500 * 8));
        });
        test("33 row: a ROW of 300 LINKS", () -> {
            SweepKeeper x = sized(400);
            x.root(0, x.make(ROW, 300));
            x.link(0, 299, 0);
            x.cycle();
            is(300, x.row(30));
            is(NONE, x.row(31));
            is(0, x.row(330));
            is(0, x.row(331));
        });
    }

    private static void kept(SweepKeeper x, int at, int... due) {
        for (int k = 0; k < due.length; k++) {
            is(due[k], x.row(at + k));
        }
    }

    /** PAIR 0 in root 0, others in none: WEAK 1 leads weakly to PAIR 2, PAIR 3 by link 1 to PAIR 4; PAIRS 5, 6. */
    private static SweepKeeper beforeReasons() {
        SweepKeeper x = new SweepKeeper();
        x.make(PAIR, 0);
        x.make(WEAK, 0);
        for (int h = 2; h < 7; h++) {
            x.make(PAIR, 0);
        }
        x.root(0, 0);
        x.weaken(1, 2);
        x.link(3, 1, 4);
        x.step(0);
        return x;
    }

    // "0 ROOT (the ROOT, NONE), 1 LINK [..], 2 OVERWRITTEN [..], 3 SET [..], 4 LOOK [..], 5 MADE (NONE, NONE)"
    private static void rowsOfReasons() {
        test("33 row: ROOT, of a CELL in two ROOTS the lower one", () -> {
            SweepKeeper x = new SweepKeeper();
            x.make(BYTES, 0);
            x.root(23, 0);
            x.root(22, 0);
            x.cycle();
            kept(x, 25, 0, 0, 22, NONE, 1, 0);
        });
        test("33 row: LINK, of a CELL that two LINKS lead to the one looked through first", () -> {
            SweepKeeper x = new SweepKeeper();
            x.make(PAIR, 0);
            x.make(BYTES, 0);
            x.link(0, 1, 1);
            x.link(0, 0, 1);
            x.root(0, 0);
            x.cycle();
            kept(x, 33, 1, 1, 0, 0, 2, 0);
        });
        test("33 row: LINK 299, the highest", () -> {
            SweepKeeper x = sized(400);
            x.make(ROW, 300);
            x.make(BYTES, 0);
            x.link(0, 299, 1);
            x.root(0, 0);
            x.cycle();
            kept(x, 331, 1, 1, 0, 299, 2, 0);
        });
        test("33 row: OVERWRITTEN, by a CELL that was GIVEN BACK itself", () -> {
            SweepKeeper x = beforeReasons();
            x.link(3, 1, NONE);
            x.cycle();
            kept(x, 33, 4, 2, 3, 1, 2, 2);
        });
        test("33 row: OVERWRITTEN, not SET, by the same LINK again", () -> {
            SweepKeeper x = beforeReasons();
            x.link(3, 1, 4);
            x.cycle();
            kept(x, 33, 4, 2, 3, 1, 2, 2);
        });
        test("33 row: SET, by a LINK", () -> {
            SweepKeeper x = beforeReasons();
            x.link(3, 0, 5);
            x.cycle();
            kept(x, 33, 5, 3, 3, 0, 2, 2);
        });
        test("33 row: SET, by ROOT 23", () -> {
            SweepKeeper x = beforeReasons();
            x.root(23, 6);
            x.cycle();
            kept(x, 33, 6, 3, NONE, 23, 2, 2);
        });
        test("33 row: LOOK, by a WEAK that was GIVEN BACK itself", () -> {
            SweepKeeper x = beforeReasons();
            x.look(1);
            x.cycle();
            kept(x, 33, 2, 4, 1, 0, 2, 2);
        });
        test("33 row: MADE", () -> {
            SweepKeeper x = beforeReasons();
            x.make(BYTES, 0);
            x.cycle();
            kept(x, 33, 7, 5, NONE, NONE, 2, 0);
        });
    }

    // "Number k of THE PAPER becomes v: what it was. UNKNOWN."
    private static void forge() {
        int[] unknown = {-1, ROWS, MIN, MAX};
        for (int k : unknown) {
            test("34 forge: there is no number " + k + " of " + ROWS,
                () -> refused(PaperTest::written, UNKNOWN, x -> x.forge(k, 1)));
        }
        test("34 forge: there is no number 0 of an empty one",
            () -> refused(SweepKeeper::new, UNKNOWN, x -> x.forge(0, 1)));
        int[] places = {0, SUM};
        for (int k : places) {
            test("34 forge: number " + k + ", an end", () -> {
                SweepKeeper x = PaperTest.written();
                int was = x.row(k);
                is(was, x.forge(k, 77));
                is(77, x.row(k));
                is(77, x.forge(k, was));
                is(was, x.row(k));
                is(ROWS, x.rows());
            });
        }
        int[] values = {MIN, MAX, UNKNOWN, NOT, NONE};
        for (int v : values) {
            test("34 forge: to " + v, () -> {
                SweepKeeper x = PaperTest.written();
                is(3, x.forge(K, v));
                is(v, x.row(K));
                is(v, x.forge(K, 3));
            });
        }
        test("34 forge: changes nothing but THE PAPER", () -> {
            SweepKeeper x = PaperTest.written();
            x.forge(2, 5);
            is(1, x.rootOf(2));
            is(3, x.about(5));
            is(SUM, x.check());
        });
        test("34 forge: the next END writes it anew", () -> {
            SweepKeeper x = PaperTest.written();
            x.forge(K, 9);
            x.cycle();
            is(3, x.row(K));
            is(0, x.plain());
        });
    }

    // "THE PAPER is as it was written: how many numbers were others."
    private static void plain() {
        test("35 plain: 0 of an empty one", () -> is(0, new SweepKeeper().plain()));
        test("35 plain: 0 of one that was not forged", () -> is(0, PaperTest.written().plain()));
        test("35 plain: a number that was forged to what it was is no other", () -> {
            SweepKeeper x = PaperTest.written();
            x.forge(K, 3);
            is(0, x.plain());
        });
        test("35 plain: a number that was forged and forged back is no other", () -> {
            SweepKeeper x = PaperTest.written();
            x.forge(K, 4);
            x.forge(K, 3);
            is(0, x.plain());
        });
        test("35 plain: a number that was forged twice is one", () -> {
            SweepKeeper x = PaperTest.written();
            x.forge(K, 4);
            x.forge(K, 5);
            is(1, x.plain());
            is(3, x.row(K));
        });
        test("35 plain: the first and the last", () -> {
            SweepKeeper x = PaperTest.written();
            int sum = x.row(SUM);
            x.forge(0, 4);
            x.forge(SUM, 5);
            is(2, x.plain());
            is(NONE, x.row(0));
            is(sum, x.row(SUM));
        });
        test("35 plain: all of them", () -> {
            SweepKeeper x = ofNothing();
            for (int k = 0; k < 27; k++) {
                x.forge(k, 1000);
            }
            is(27, x.plain());
            is(NONE, x.check());
        });
        test("35 plain: what was forged of a longer one, behind the last of this one, is none", () -> {
            SweepKeeper x = six();
            for (int k = 27; k < 73; k++) {
                x.forge(k, 1000);
            }
            for (int r = 0; r < 6; r++) {
                x.root(r, NONE);
            }
            x.cycle();
            is(33, x.rows());
            is(0, x.plain());
            is(NONE, x.check());
        });
        test("35 plain: twice is 0 then", () -> {
            SweepKeeper x = PaperTest.written();
            x.forge(0, 4);
            is(1, x.plain());
            is(0, x.plain());
        });
        test("35 plain: as written by the latest END alone", () -> {
            SweepKeeper x = PaperTest.written();
            x.forge(2, 4);
            x.root(2, NONE);
            x.cycle();
            is(0, x.plain());
            is(NONE, x.row(2));
        });
    }

    /** The check of the written paper with some of its numbers forged: place, number, place, number, .. */
    private static void checks(int want, int... forged) {
        SweepKeeper x = PaperTest.written();
        for (int k = 0; k < forged.length; k += 2) {
            x.forge(forged[k], forged[k + 1]);
        }
        is(want, x.check());
    }

    private static void forged(String what, int want, int... forged) {
        test("36 check: " + what, () -> checks(want, forged));
    }

    // "NOT: it is empty."
    private static void checkEmpty() {
        test("36 check: NOT while THE PAPER is empty", () -> refused(SweepKeeper::new, NOT, x -> x.check()));
        test("36 check: NOT while the first CYCLE is under way", () -> {
            SweepKeeper x = chain(1);
            x.step(1);
            is(NOT, x.check());
        });
        test("36 check: NONE of the paper of nothing", () -> is(NONE, ofNothing().check()));
        test("36 check: NONE of one that was not forged, and it changes nothing", () -> {
            SweepKeeper x = PaperTest.written();
            x.shelf(0, 8);
            is(NONE, x.check());
            is(BEYOND, x.finding());
            is(0, x.plain());
            is(ROWS, x.rows());
        });
    }

    // "FORM: K not 0 .. 500; of a kept one how many LINKS not 0 .. 300; F not 0 .. 500, or if there are not just F
    // numbers and THE SUM behind it"
    private static void checkForm() {
        int[] noK = {-1, 501, MIN, MAX};
        for (int k : noK) {
            forged("K " + k, K, K, k);
        }
        test("36 check: K 500 of 500 kept ones is right, 501 is not, 499 is wrong behind them", () -> {
            SweepKeeper x = chainOf500();
            is(NONE, x.check());
            x.forge(K, 501);
            is(K, x.check());
            x.forge(K, 499);
            is(25 + 499 * 8, x.check());
        });
        forged("K 0 of 3: the first HANDLE stands for F", FIRST, K, 0);
        forged("K 1 of 3: the second HANDLE stands for F", SECOND, K, 1);
        forged("K 2 of 3: the third HANDLE stands for F", THIRD, K, 2);
        int[] noCount = {-1, 301, MIN, MAX};
        for (int count : noCount) {
            forged(count + " LINKS of the first kept one", FIRST + COUNT, FIRST + COUNT, count);
            forged(count + " LINKS of the last kept one", THIRD + COUNT, THIRD + COUNT, count);
        }
        test("36 check: 300 LINKS of a ROW that has them are right, 301 are not", () -> {
            SweepKeeper x = sized(400);
            x.root(0, x.make(ROW, 300));
            x.cycle();
            is(NONE, x.check());
            x.forge(FIRST + COUNT, 301);
            is(FIRST + COUNT, x.check());
        });
        int[] noF = {-1, 501, MIN, MAX};
        for (int f : noF) {
            forged("F " + f, F, F, f);
        }
        forged("F one too low", F, F, 1);
        forged("F one too high", F, F, 3);
        forged("F 0 of 2", F, F, 0);
        forged("F 500 of 2", F, F, 500);
        test("36 check: F 500 of 500 GIVEN BACK is right, 501 and 499 are not", () -> {
            SweepKeeper x = back500();
            is(NONE, x.check());
            x.forge(25, 501);
            is(25, x.check());
            x.forge(25, 499);
            is(25, x.check());
        });
        test("36 check: F 1 of none GIVEN BACK", () -> {
            SweepKeeper x = ofNothing();
            x.forge(25, 1);
            is(25, x.check());
        });
    }

    // "where a number lacks: the place behind the last one"
    private static void checkWhatLacks() {
        forged("K one too high: a kept one lacks", ROWS, K, 4);
        forged("K 500 of 3: kept ones lack", ROWS, K, 500);
        forged("300 LINKS of the first kept one lack", ROWS, FIRST + COUNT, 300);
        forged("300 LINKS of the last kept one lack", ROWS, THIRD + COUNT, 300);
        forged("one LINK too many: what was GIVEN BACK stands for F", BACK_AT, THIRD + COUNT, 1);
        forged("two LINKS too many: what was GIVEN BACK stands for F", BACK_AT + 1, THIRD + COUNT, 2);
        forged("LINKS up to the last but one: THE SUM stands for F", SUM, THIRD + COUNT, 3);
        forged("F is the last number: THE SUM lacks, F is told", SUM, THIRD + COUNT, 3, SUM, 0);
        forged("LINKS up to the last one: F lacks", ROWS, THIRD + COUNT, 4);
        forged("LINKS one behind the last one: they lack", ROWS, THIRD + COUNT, 5);
        // The first kept one without links lets the second begin at 31 and the third at 37; a fourth comes behind that.
        forged("how many LINKS is the last number, and wrong", SUM, K, 4, 30, 0, 42, 1, SUM, 301);
        forged("how many LINKS is the last number, and 0: F lacks", ROWS, K, 4, 30, 0, 42, 1, SUM, 0);
        forged("how many LINKS is the first number that lacks", ROWS, K, 4, 30, 0, 42, 2, SUM, 301);
        test("36 check: K 1 of nothing: a kept one lacks", () -> {
            SweepKeeper x = ofNothing();
            x.forge(24, 1);
            is(27, x.check());
        });
        test("36 check: wrong numbers of a longer paper before are not told behind the last", () -> {
            SweepKeeper x = new SweepKeeper();
            x.root(0, x.make(ROW, 10));
            x.cycle();
            x.root(0, x.make(BYTES, 0));
            x.cycle();
            is(34, x.rows());
            // The second of two kept ones would begin at 31, and 36 had a LINK that is NONE.
            x.forge(24, 2);
            is(34, x.check());
        });
        test("36 check: numbers of a longer paper before do not count behind the last", () -> {
            SweepKeeper x = six();
            for (int r = 0; r < 6; r++) {
                x.root(r, NONE);
            }
            x.cycle();
            x.cycle();
            x.forge(24, 1);
            is(27, x.check());
            x.forge(24, 500);
            is(27, x.check());
        });
    }

    // "a ROOT that is neither NONE nor the HANDLE of a kept one"; what is right up to there is told at THE SUM
    private static void checkRoots() {
        int[] wrong = {0, 2, 4, -2, 499, 500, MIN, MAX};
        for (int h : wrong) {
            forged("ROOT 0 has " + h + ", which is not kept", 0, 0, h);
            forged("ROOT 23 has " + h + ", which is not kept", 23, 23, h);
        }
        int[] right = {1, 3, 5};
        for (int h : right) {
            forged("ROOT 23 has " + h + ", which is kept", SUM, 23, h);
        }
        forged("ROOT 2 has NONE", SUM, 2, NONE);
        forged("a HANDLE of 500 that stands as kept is no kept one's", 0, 0, 500, THIRD, 500, LINK_OF_SECOND, NONE);
        forged("a HANDLE of -2 that stands as kept is no kept one's", 0, 0, -2, THIRD, -2, LINK_OF_SECOND, NONE);
        forged("a HANDLE of 499 that stands as kept is one", SUM, 0, 499, THIRD, 499, LINK_OF_SECOND, NONE);
    }

    // "of a kept one a HANDLE that is not 0 .. 499, or that of one before it"
    private static void checkHandles() {
        int[] wrong = {-1, 500, MIN, MAX};
        for (int h : wrong) {
            forged("the HANDLE " + h + " of a kept one", THIRD, THIRD, h, LINK_OF_SECOND, NONE);
        }
        forged("the HANDLE 499 of a kept one", SUM, THIRD, 499, LINK_OF_SECOND, 499);
        forged("the HANDLE 0 of a kept one", SUM, THIRD, 0, LINK_OF_SECOND, 0, BACK_AT, 1 + 1, BACK_AT + 1, 4);
        forged("the HANDLE of the first kept one again", THIRD, THIRD, 1, LINK_OF_SECOND, NONE);
        forged("the HANDLE of the one before again", THIRD, THIRD, 3, LINK_OF_SECOND, NONE);
        forged("the first of two with the same HANDLE is right", SECOND, SECOND, 1, FIRST + LINK, NONE);
    }

    private static void reason(String what, int want, int reason, int one, int other) {
        forged(what + ": REASON " + reason + " of " + one + ", " + other, want, THIRD + REASON, reason, THIRD + ONE,
            one, THIRD + OTHER, other);
    }

    // "a REASON not 0 .. 5; its numbers: of 0: 0 .. 23, NONE; [..] of 5: NONE, NONE"
    private static void checkReasons() {
        int[] noReasons = {-1, 6, MIN, MAX};
        for (int reason : noReasons) {
            reason("no such REASON", THIRD + REASON, reason, NONE, NONE);
        }
        int[][] right = {{0, 0, NONE}, {0, 23, NONE}, {1, 1, 0}, {1, 3, 299}, {2, 0, 0}, {2, 499, 299}, {3, 0, 0},
            {3, 499, 299}, {3, NONE, 0}, {3, NONE, 23}, {4, 0, 0}, {4, 499, 0}, {5, NONE, NONE}};
        for (int[] r : right) {
            reason("right", SUM, r[0], r[1], r[2]);
        }
        int[][] wrongOne = {{0, -1, NONE}, {0, 24, NONE}, {0, MIN, NONE}, {0, MAX, NONE}, {1, NONE, 0}, {1, 0, 0},
            {1, 2, 0}, {1, 4, 0}, {1, 499, 0}, {1, 500, 0}, {1, MIN, 0}, {1, MAX, 0}, {2, NONE, 0}, {2, 500, 0},
            {2, MIN, 0}, {2, MAX, 0}, {3, -2, 0}, {3, 500, 0}, {3, MIN, 0}, {3, MAX, 0}, {4, NONE, 0}, {4, 500, 0},
            {4, MIN, 0}, {4, MAX, 0}, {5, 0, NONE}, {5, -2, NONE}, {5, MIN, NONE}, {5, MAX, NONE}};
        for (int[] r : wrongOne) {
            reason("its first number", THIRD + ONE, r[0], r[1], r[2]);
        }
        int[][] wrongOther = {{0, 0, 0}, {0, 23, -2}, {0, 0, MIN}, {0, 0, MAX}, {1, 1, -1}, {1, 1, 300}, {1, 1, MIN},
            {1, 1, MAX}, {2, 0, -1}, {2, 0, 300}, {2, 0, MIN}, {2, 0, MAX}, {3, 0, -1}, {3, 0, 300}, {3, 499, MIN},
            {3, 0, MAX}, {3, NONE, -1}, {3, NONE, 24}, {3, NONE, 299}, {3, NONE, MIN}, {3, NONE, MAX}, {4, 0, -1},
            {4, 0, 1}, {4, 0, MIN}, {4, 0, MAX}, {5, NONE, 0}, {5, NONE, -2}, {5, NONE, MIN}, {5, NONE, MAX}};
        for (int[] r : wrongOther) {
            reason("its second number", THIRD + OTHER, r[0], r[1], r[2]);
        }
        reason("both its numbers, the first is told", THIRD + ONE, 1, 2, 300);
    }

    // "a NUMBER that is not 1 .. K, or one's before it, or, with REASON 1, not above that of the kept one named there
    // (the first one with that HANDLE)"
    private static void checkNumbers() {
        int[] wrong = {0, 4, -1, MIN, MAX};
        for (int number : wrong) {
            forged("the NUMBER " + number + " of 3 kept ones", THIRD + NUMBER, THIRD + NUMBER, number);
            forged("the NUMBER " + number + " of the first of 3", FIRST + NUMBER, FIRST + NUMBER, number);
        }
        forged("the NUMBERS 1 and K of others", SUM, FIRST + NUMBER, 3, FIRST + REASON, 5, FIRST + ONE, NONE,
            SECOND + REASON, 5, SECOND + ONE, NONE, SECOND + OTHER, NONE, THIRD + REASON, 5, THIRD + ONE, NONE,
            THIRD + OTHER, NONE, THIRD + NUMBER, 1);
        forged("the NUMBER of the first again", THIRD + NUMBER, THIRD + NUMBER, 1);
        forged("the NUMBER of the one before again", THIRD + NUMBER, THIRD + NUMBER, 2);
        forged("the NUMBER of the first again, with a REASON that names none", THIRD + NUMBER, THIRD + REASON, 5,
            THIRD + ONE, NONE, THIRD + OTHER, NONE, THIRD + NUMBER, 1);
        forged("the NUMBER of the one before again, with a REASON that names none", THIRD + NUMBER, THIRD + REASON, 5,
            THIRD + ONE, NONE, THIRD + OTHER, NONE, THIRD + NUMBER, 2);
        forged("the NUMBER of the one named by LINK", SECOND + NUMBER, SECOND + NUMBER, 1);
        forged("below that of the one named by LINK", SECOND + NUMBER, FIRST + NUMBER, 2, SECOND + NUMBER, 1);
        forged("just above that of the one named by LINK", NONE, THIRD + ONE, 3);
        forged("named by LINK is the CELL itself", SECOND + NUMBER, SECOND + ONE, 3);
        forged("named by LINK is one behind it with a higher NUMBER", FIRST + NUMBER, FIRST + REASON, 1, FIRST + ONE, 5,
            FIRST + OTHER, 0);
        forged("named by LINK is one behind it with a lower NUMBER", SUM, FIRST + REASON, 1, FIRST + ONE, 5,
            FIRST + OTHER, 0, FIRST + NUMBER, 2, SECOND + NUMBER, 3, THIRD + NUMBER, 1, THIRD + REASON, 5, THIRD + ONE,
            NONE, THIRD + OTHER, NONE);
        forged("named by LINK is one behind it whose own NUMBER is wrong", THIRD + NUMBER, FIRST + REASON, 1,
            FIRST + ONE, 5, FIRST + OTHER, 0, THIRD + NUMBER, MIN);
        forged("with another REASON it may be below", SUM, THIRD + REASON, 2, SECOND + REASON, 2, SECOND + NUMBER, 3,
            THIRD + NUMBER, 2);
        // 3 stands twice, with the NUMBERS 2 and 9: 3 is above the first of these alone.
        forged("named by LINK is the first one with that HANDLE", THIRD, FIRST + REASON, 1, FIRST + ONE, 3,
            FIRST + OTHER, 0, FIRST + NUMBER, 3, SECOND + REASON, 5, SECOND + ONE, NONE, SECOND + OTHER, NONE,
            LINK_OF_SECOND, NONE, THIRD, 3, THIRD + NUMBER, 9);
        // As before, with the NUMBERS 3 and 1: 2 is above the second of these alone.
        forged("named by LINK is not the second one with that HANDLE", FIRST + NUMBER, FIRST + REASON, 1, FIRST + ONE,
            3, FIRST + OTHER, 0, FIRST + NUMBER, 2, SECOND + REASON, 5, SECOND + ONE, NONE, SECOND + OTHER, NONE,
            SECOND + NUMBER, 3, LINK_OF_SECOND, NONE, THIRD, 3, THIRD + NUMBER, 1);
    }

    // "a LINK that is neither NONE nor the HANDLE of a kept one"
    private static void checkLinks() {
        int[] wrong = {0, 2, 4, -2, 499, 500, MIN, MAX};
        for (int h : wrong) {
            forged("LINK 0 of the first leads to " + h, FIRST + LINK, FIRST + LINK, h);
            forged("LINK 1 of the first leads to " + h, FIRST + LINK + 1, FIRST + LINK + 1, h);
        }
        forged("a LINK to one behind it, to itself, to NONE", SUM, FIRST + LINK, 5, FIRST + LINK + 1, 1, LINK_OF_SECOND,
            NONE);
        test("36 check: LINK 299 of 300", () -> {
            SweepKeeper x = sized(400);
            x.root(0, x.make(ROW, 300));
            x.cycle();
            x.forge(FIRST + LINK + 299, 1);
            is(FIRST + LINK + 299, x.check());
            x.forge(FIRST + LINK + 299, 0);
            is(x.rows() - 1, x.check());
        });
    }

    // "a HANDLE GIVEN BACK that is not above the one before it (the first: below 0), above 499, or a kept one's"
    private static void checkGivenBack() {
        forged("the first GIVEN BACK is -1", BACK_AT, BACK_AT, -1);
        forged("the first GIVEN BACK is as low as an int goes", BACK_AT, BACK_AT, MIN);
        forged("the first GIVEN BACK is 0", SUM, BACK_AT + 1, 4);
        forged("one GIVEN BACK is the one before it again", BACK_AT + 1, BACK_AT + 1, 0);
        forged("one GIVEN BACK is below the one before it", BACK_AT + 1, BACK_AT, 4);
        forged("one GIVEN BACK is as low as an int goes", BACK_AT + 1, BACK_AT + 1, MIN);
        forged("one GIVEN BACK is just above the one before it", SUM, BACK_AT, 498, BACK_AT + 1, 499);
        forged("one GIVEN BACK is 499", SUM, BACK_AT + 1, 499);
        forged("one GIVEN BACK is 500", BACK_AT + 1, BACK_AT + 1, 500);
        forged("one GIVEN BACK is as high as an int goes", BACK_AT + 1, BACK_AT + 1, MAX);
        forged("the first GIVEN BACK is 500", BACK_AT, BACK_AT, 500);
        forged("the first GIVEN BACK is a kept one's", BACK_AT, BACK_AT, 1);
        forged("the last GIVEN BACK is a kept one's", BACK_AT + 1, BACK_AT + 1, 5);
    }

    // "THE SUM: s is 1; for each number ahead: 31 s and it (wrapping)."
    private static void checkSum() {
        test("36 check: THE SUM one higher", () -> {
            SweepKeeper x = PaperTest.written();
            x.forge(SUM, x.row(SUM) + 1);
            is(SUM, x.check());
        });
        test("36 check: THE SUM one lower", () -> {
            SweepKeeper x = PaperTest.written();
            x.forge(SUM, x.row(SUM) - 1);
            is(SUM, x.check());
        });
        test("36 check: THE SUM of forged numbers, forged with them, is right", () -> {
            SweepKeeper x = PaperTest.written();
            x.forge(BACK_AT + 1, 499);
            x.forge(23, 5);
            is(SUM, x.check());
            x.forge(SUM, PaperTest.sumOf(x));
            is(NONE, x.check());
        });
        test("36 check: THE SUM of 500 kept ones wraps, and is right", () -> is(NONE, chainOf500().check()));
        test("36 check: THE SUM of 500 GIVEN BACK wraps, and is right", () -> is(NONE, back500().check()));
        test("36 check: THE SUM of nothing", () -> {
            SweepKeeper x = ofNothing();
            x.forge(26, 0);
            is(26, x.check());
        });
    }

    // "It is CHECKED in three goes, each from its first number on; the first number that is wrong is told."
    private static void checkGoes() {
        forged("FORM ahead of MEANING, though that is wrong at 0", F, 0, 400, F, 7);
        forged("MEANING ahead of THE SUM", 0, 0, 400, SUM, 0);
        forged("FORM: K ahead of LINKS", K, K, -1, FIRST + COUNT, -1);
        forged("FORM: the first kept one's LINKS ahead of the last one's", FIRST + COUNT, FIRST + COUNT, -1,
            THIRD + COUNT, -1);
        forged("FORM: LINKS ahead of F", THIRD + COUNT, THIRD + COUNT, 301, F, -1);
        forged("MEANING: a ROOT ahead of a HANDLE", 23, 23, 400, THIRD, -1, LINK_OF_SECOND, NONE);
        forged("MEANING: the first ROOT ahead of the last", 0, 0, 400, 23, 400);
        forged("MEANING: a HANDLE ahead of its REASON", THIRD, LINK_OF_SECOND, NONE, THIRD, -1, THIRD + REASON, 9);
        forged("MEANING: a REASON ahead of its numbers", THIRD + REASON, THIRD + REASON, 9, THIRD + ONE, MIN);
        forged("MEANING: its numbers ahead of the NUMBER", THIRD + OTHER, THIRD + OTHER, 300, THIRD + NUMBER, 9);
        forged("MEANING: the NUMBER ahead of LINKS", FIRST + NUMBER, FIRST + NUMBER, 9, FIRST + LINK, 400);
        forged("MEANING: LINKS ahead of the next kept one", FIRST + LINK + 1, FIRST + LINK + 1, 400, SECOND + REASON,
            9);
        forged("MEANING: kept ones ahead of those GIVEN BACK", THIRD + NUMBER, THIRD + NUMBER, 9, BACK_AT, -1);
        forged("MEANING: the first GIVEN BACK ahead of the last", BACK_AT, BACK_AT, -1, BACK_AT + 1, 500);
    }
}
