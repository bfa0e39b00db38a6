/** Promises 23 to 31: steps, cycles, marks, tellings and what is told of the heap. */
public final class CycleBoundariesTest extends Boundary {
    public static void main(String[] args) {
        stepNumbers();
        stepCounts();
        stepEnds();
        stepEndsInOrder();
        cycle();
        phase();
        marked();
        markedByWhat();
        moved();
        told();
        toldOnlyWhatFaded();
        about();
        aboutAtItsEnds();
        word();
        digest();
        end(23, 31);
    }

    private static SweepKeeper thousandLinks() {
        SweepKeeper x = sized(4000);
        int[] links = {300, 300, 300, 100};
        for (int r = 0; r < links.length; r++) {
            x.root(r, x.make(ROW, links[r]));
        }
        return x;
    }

    // "then n LINKS at most (0 .. 1000) are LOOKED THROUGH [..] OUTSIDE."
    private static void stepNumbers() {
        int[] outside = {-1, 1001, MIN, MAX};
        for (int n : outside) {
            test("23 step: " + n + " is OUTSIDE", () -> refused(OUTSIDE, x -> x.step(n)));
            test("23 step: " + n + " is OUTSIDE while MARKING", () -> refused(() -> {
                SweepKeeper x = six();
                x.step(1);
                return x;
            }, OUTSIDE, x -> x.step(n)));
        }
        test("23 step: 0 BEGINS a CYCLE and looks through none", () -> {
            SweepKeeper x = chain(3);
            is(0, x.step(0));
            is(1, x.phase());
            is(1, x.about(10));
        });
        test("23 step: 0 in a CYCLE under way changes nothing", () -> {
            SweepKeeper x = chain(3);
            x.step(1);
            int state = stateOf(x);
            is(0, x.step(0));
            is(state, stateOf(x));
        });
        test("23 step: 1000 of just 1000 LINKS ENDS it", () -> {
            SweepKeeper x = thousandLinks();
            is(1000, x.step(1000));
            is(0, x.phase());
        });
        test("23 step: 1000 of 1001 LINKS does not END it", () -> {
            SweepKeeper x = thousandLinks();
            x.root(23, x.make(WEAK, 0));
            is(1000, x.step(1000));
            is(1, x.phase());
            is(1, x.step(1000));
            is(0, x.phase());
        });
        test("23 step: 1000 of 1200 LINKS, then the other 200", () -> {
            SweepKeeper x = sized(4000);
            for (int r = 0; r < 4; r++) {
                x.root(r, x.make(ROW, 300));
            }
            is(1000, x.step(1000));
            is(1, x.phase());
            is(200, x.step(1000));
            is(0, x.phase());
        });
    }

    // "each LINK (also NONE, which counts as one), from 0 on"
    private static void stepCounts() {
        test("23 step: a LINK that is NONE counts as one", () -> {
            SweepKeeper x = six();
            x.step(0);
            is(1, x.step(1));
            is(6, x.about(10));
            is(5, x.about(11));
            is(8, x.step(1000));
        });
        test("23 step: LINK 0 is looked through ahead of LINK 1", () -> {
            SweepKeeper x = chain(1);
            x.make(PAIR, 0);
            x.make(PAIR, 0);
            x.link(0, 0, 2);
            x.link(0, 1, 1);
            x.step(1);
            is(2, x.marked(2));
            is(0, x.marked(1));
            x.step(1);
            is(3, x.marked(1));
        });
        test("23 step: by their NUMBERS, not by their HANDLES", () -> {
            SweepKeeper x = new SweepKeeper();
            x.make(PAIR, 0);
            x.make(PAIR, 0);
            x.make(PAIR, 0);
            x.make(PAIR, 0);
            x.link(0, 0, 2);
            x.link(1, 0, 3);
            x.root(0, 1);
            x.root(1, 0);
            x.step(1);
            is(3, x.marked(3));
            is(0, x.marked(2));
        });
        test("23 step: more than there are tells how many were", () -> is(6, chain(3).step(7)));
        test("23 step: BYTES, a ROW of none, a TABLE of none have no LINKS to look through", () -> {
            SweepKeeper x = new SweepKeeper();
            x.root(0, x.make(BYTES, 9));
            x.root(1, x.make(ROW, 0));
            x.root(2, x.make(TABLE, 0));
            x.root(3, x.make(PAIR, 0));
            x.root(4, x.make(BYTES, 0));
            x.step(0);
            is(5, x.about(10));
            is(1, x.about(11));
            is(2, x.step(1000));
            is(5, x.about(5));
        });
        test("23 step: a WEAK LINK, a NUMBER, KEYS are not looked through", () -> {
            SweepKeeper x = new SweepKeeper();
            x.root(0, x.make(WEAK, 0));
            x.root(1, x.make(WATCHED, 0));
            x.root(2, x.make(TABLE, 3));
            is(5, x.step(1000));
        });
        test("23 step: a LINK that was changed ahead of it is looked through as it is then", () -> {
            SweepKeeper x = chain(2);
            x.step(0);
            x.link(0, 0, NONE);
            is(2, x.marked(1));
            is(4, x.step(9));
            is(2, x.about(5));
        });
        test("23 step: a CELL that is made while MARKING is looked through, too", () -> {
            SweepKeeper x = chain(1);
            x.step(1);
            x.make(ROW, 3);
            is(4, x.step(1000));
        });
    }

    // "It ENDS as soon as a step() or cycle() leaves no MARKED one that has LINKS which were not LOOKED THROUGH"
    private static void stepEnds() {
        test("23 step: just as many as there are ENDS it", () -> {
            SweepKeeper x = chain(3);
            is(6, x.step(6));
            is(0, x.phase());
            is(1, x.about(4));
        });
        test("23 step: one fewer than there are does not END it", () -> {
            SweepKeeper x = chain(3);
            is(5, x.step(5));
            is(1, x.phase());
            is(0, x.about(4));
            is(1, x.about(11));
        });
        test("23 step: one by one ENDS with the last", () -> {
            SweepKeeper x = chain(2);
            for (int k = 0; k < 4; k++) {
                is(0, x.about(4));
                is(1, x.step(1));
            }
            is(1, x.about(4));
        });
        test("23 step: 0 without CELLS ENDS at once", () -> {
            SweepKeeper x = new SweepKeeper();
            is(0, x.step(0));
            is(0, x.phase());
            is(1, x.about(4));
        });
        test("23 step: 0 without ROOTS ENDS at once, and all are GIVEN BACK", () -> {
            SweepKeeper x = chain(3);
            x.root(0, NONE);
            is(0, x.step(0));
            is(1, x.about(4));
            is(3, x.about(6));
        });
        test("23 step: 0 with CELLS without LINKS alone ENDS at once", () -> {
            SweepKeeper x = new SweepKeeper();
            x.root(0, x.make(BYTES, 3));
            x.root(1, x.make(ROW, 0));
            is(0, x.step(0));
            is(1, x.about(4));
            is(2, x.about(5));
        });
        test("23 step: the last LINK may lead to BYTES, and ENDS it", () -> {
            SweepKeeper x = new SweepKeeper();
            x.make(PAIR, 0);
            x.link(0, 1, x.make(BYTES, 1));
            x.root(0, 0);
            is(2, x.step(2));
            is(1, x.about(4));
            is(2, x.about(5));
        });
        test("23 step: the last LINK may lead to a PAIR, and does not END it", () -> {
            SweepKeeper x = new SweepKeeper();
            x.make(PAIR, 0);
            x.link(0, 1, x.make(PAIR, 0));
            x.root(0, 0);
            is(2, x.step(2));
            is(1, x.phase());
        });
        test("23 step: behind an END the next one BEGINS anew", () -> {
            SweepKeeper x = chain(3);
            x.step(6);
            is(0, x.step(0));
            is(1, x.phase());
            is(1, x.marked(0));
            is(0, x.marked(1));
        });
    }

    // "1. CELLS that are not MARKED are GIVEN BACK [..] 2. [..] 3. Those kept SLIDE [..] 5. No CELL is MARKED."
    private static void stepEndsInOrder() {
        test("23 step: a WEAK LINK to a CELL GIVEN BACK is NONE behind the END, to a kept one it stays", () -> {
            SweepKeeper x = six();
            x.weaken(WEAK, x.make(PAIR, 0));
            x.weaken(WATCHED, PAIR);
            x.step(1000);
            is(NONE, x.look(WEAK));
            is(PAIR, x.look(WATCHED));
        });
        test("23 step: those kept lie one behind the other, and behind them all is 0", () -> {
            SweepKeeper x = six();
            x.root(PAIR, NONE);
            x.root(BYTES, NONE);
            x.step(1000);
            is(0, x.place(ROW));
            is(5, x.place(WEAK));
            is(8, x.place(WATCHED));
            is(12, x.place(TABLE));
            is(238, x.about(1));
            for (int k = 18; k < 40; k++) {
                is(0, x.word(k));
            }
        });
        test("23 step: no CELL is MARKED behind the END", () -> {
            SweepKeeper x = chain(3);
            x.step(1000);
            for (int h = 0; h < 3; h++) {
                is(0, x.marked(h));
            }
            is(0, x.about(10));
        });
        test("23 step: ROOTS and LINKS stay as they are", () -> {
            SweepKeeper x = new SweepKeeper();
            x.make(ROW, 9);
            x.make(PAIR, 0);
            x.root(7, x.make(PAIR, 0));
            x.link(2, 1, 1);
            x.step(1000);
            is(2, x.rootOf(7));
            is(1, x.get(2, 1));
            is(0, x.place(1));
        });
    }

    // "The CYCLE under way (if there is none: one that BEGINS now) is gone on with to its END: how many were GIVEN
    // BACK."
    private static void cycle() {
        test("24 cycle: of nothing gives back 0", () -> {
            SweepKeeper x = new SweepKeeper();
            is(0, x.cycle());
            is(1, x.about(4));
        });
        test("24 cycle: all are kept", () -> is(0, chain(3).cycle()));
        test("24 cycle: all are GIVEN BACK", () -> {
            SweepKeeper x = chain(3);
            x.root(0, NONE);
            is(3, x.cycle());
            is(400, x.about(1));
        });
        test("24 cycle: a ring that no ROOT reaches is GIVEN BACK", () -> {
            SweepKeeper x = chain(3);
            x.link(2, 0, 0);
            x.root(0, NONE);
            is(3, x.cycle());
        });
        test("24 cycle: 500 CELLS at once", () -> {
            SweepKeeper x = fiveHundred();
            is(500, x.cycle());
            is(0, x.about(3));
            is(4000, x.about(1));
        });
        test("24 cycle: goes on with the one under way, which keeps what it MARKED", () -> {
            SweepKeeper x = chain(2);
            x.step(0);
            x.root(0, NONE);
            is(0, x.cycle());
            is(1, x.about(4));
            is(2, x.cycle());
            is(2, x.about(4));
        });
        test("24 cycle: tells those of its own END alone", () -> {
            SweepKeeper x = six();
            is(0, x.cycle());
            is(1, x.about(8));
        });
        test("24 cycle: more LINKS than a step() may look through", () -> {
            SweepKeeper x = sized(4000);
            x.make(PAIR, 0);
            for (int r = 0; r < 13; r++) {
                x.root(r, x.make(ROW, 300));
            }
            is(1, x.cycle());
            is(0, x.phase());
            is(13, x.about(5));
        });
        test("24 cycle: is no step() to undo", () -> {
            SweepKeeper x = chain(2);
            x.cycle();
            is(NOT, x.undoStep());
        });
    }

    // "1 MARKING, 0 not."
    private static void phase() {
        test("25 phase: 0 ahead of a CYCLE", () -> is(0, chain(1).phase()));
        test("25 phase: 1 from the first step() on, up to the END", () -> {
            SweepKeeper x = chain(1);
            x.step(0);
            is(1, x.phase());
            x.step(1);
            is(1, x.phase());
            x.step(1);
            is(0, x.phase());
        });
        test("25 phase: 0 behind a CYCLE that ENDS as it BEGINS", () -> {
            SweepKeeper x = new SweepKeeper();
            x.step(0);
            is(0, x.phase());
        });
        test("25 phase: 0 behind cycle()", () -> {
            SweepKeeper x = chain(1);
            x.step(0);
            x.cycle();
            is(0, x.phase());
        });
        test("25 phase: a refused step() BEGINS none", () -> {
            SweepKeeper x = chain(1);
            x.step(1001);
            is(0, x.phase());
        });
        test("25 phase: 0 behind make() that had to END it, 1 behind one that had ROOM as FINDING", () -> {
            SweepKeeper x = sized(16);
            x.make(ROW, 5);
            x.root(0, x.make(PAIR, 0));
            x.step(0);
            x.make(ROW, 12);
            is(1, x.phase());
            x.make(ROW, 11);
            is(0, x.phase());
        });
    }

    // "NUMBER of a CELL that is MARKED; 0. UNKNOWN; GONE."; "it gets the next NUMBER, 1 first"
    private static void marked() {
        handles("26 marked", (x, h) -> x.marked(h));
        test("26 marked: 0 while none is under way", () -> {
            SweepKeeper x = six();
            is(0, x.marked(PAIR));
            is(0, x.finding());
        });
        test("26 marked: 0 of a CELL that is not MARKED, 1 of the first", () -> {
            SweepKeeper x = chain(2);
            x.step(0);
            is(1, x.marked(0));
            is(0, x.marked(1));
            is(0, x.finding());
        });
        test("26 marked: by ROOTS, ROOT 0 first and ROOT 23 last", () -> {
            SweepKeeper x = new SweepKeeper();
            for (int h = 0; h < 3; h++) {
                x.make(PAIR, 0);
            }
            x.root(0, 2);
            x.root(23, 0);
            x.root(22, 1);
            x.step(0);
            is(1, x.marked(2));
            is(2, x.marked(1));
            is(3, x.marked(0));
        });
        test("26 marked: a CELL in two ROOTS has one NUMBER", () -> {
            SweepKeeper x = chain(2);
            x.root(1, 0);
            x.root(2, 1);
            x.step(0);
            is(1, x.marked(0));
            is(2, x.marked(1));
            is(2, x.about(10));
        });
        test("26 marked: NUMBER 500, the highest", () -> {
            SweepKeeper x = sized(4000);
            x.make(PAIR, 0);
            x.root(0, 0);
            x.step(0);
            x.act(0, 0, PAIR, 0, 0);
            x.run(200);
            x.run(200);
            x.run(99);
            is(500, x.marked(499));
            is(500, x.about(10));
            is(500, x.about(11));
        });
        test("26 marked: 1 first again as the next CYCLE BEGINS", () -> {
            SweepKeeper x = chain(2);
            x.cycle();
            x.root(0, 1);
            x.step(0);
            is(1, x.marked(1));
            is(0, x.marked(0));
        });
    }

    // "To MARK a CELL that is MARKED already is nothing"; "and none else: not get(), rootOf(), weaken()"
    private static void markedByWhat() {
        test("26 marked: to MARK it again is nothing, whatever it is by", () -> {
            SweepKeeper x = chain(2);
            x.step(0);
            x.root(5, 0);
            x.link(1, 1, 0);
            x.link(1, 1, 0);
            is(1, x.marked(0));
            is(1, x.about(10));
        });
        test("26 marked: kind(), place(), measure(), links(), moved(), shelve() MARK nothing", () -> {
            SweepKeeper x = chain(2);
            x.step(0);
            x.kind(1);
            x.place(1);
            x.measure(1);
            x.links(1);
            x.moved(1);
            x.shelve(0, 0, 1);
            is(0, x.marked(1));
        });
        test("26 marked: get(), rootOf(), weaken() MARK nothing", () -> {
            SweepKeeper x = six();
            x.make(WEAK, 0);
            x.make(PAIR, 0);
            x.link(NEXT, 0, NEXT + 1);
            x.step(0);
            x.get(NEXT, 0);
            x.rootOf(0);
            x.weaken(NEXT, NEXT + 1);
            x.weaken(NEXT, NONE);
            is(0, x.marked(NEXT + 1));
            is(0, x.marked(NEXT));
        });
        test("26 marked: a LINK of itself", () -> {
            SweepKeeper x = chain(1);
            x.link(0, 0, 0);
            x.step(1);
            is(1, x.marked(0));
            is(1, x.about(10));
        });
    }

    // "By how many ints a CELL went down as the latest CYCLE ENDED (0: made since, or none). UNKNOWN; GONE."
    private static void moved() {
        handles("27 moved", (x, h) -> x.moved(h));
        test("27 moved: 0 ahead of the first END", () -> {
            SweepKeeper x = chain(1);
            is(0, x.moved(0));
            x.step(1);
            is(0, x.moved(0));
            is(0, x.finding());
        });
        test("27 moved: 0 of one that lay low already", () -> is(0, six().moved(TABLE)));
        test("27 moved: from the last place of a full heap to the first", () -> {
            SweepKeeper x = sized(4000);
            for (int h = 0; h < 13; h++) {
                x.make(ROW, 300);
            }
            x.make(ROW, 70);
            x.root(0, x.make(ROW, 0));
            is(3998, x.place(14));
            x.cycle();
            is(3998, x.moved(14));
            is(0, x.place(14));
        });
        test("27 moved: by less than its own ints", () -> {
            SweepKeeper x = new SweepKeeper();
            x.make(BYTES, 0);
            x.make(ROW, 9);
            x.root(0, 1);
            x.link(1, 8, 1);
            x.cycle();
            is(2, x.moved(1));
            is(1, x.get(1, 8));
            is(NONE, x.get(1, 7));
            is(0, x.word(11));
        });
        test("27 moved: 0 of one that was made since", () -> {
            SweepKeeper x = chain(2);
            x.root(0, 1);
            x.cycle();
            is(3, x.moved(1));
            is(0, x.moved(x.make(PAIR, 0)));
        });
        test("27 moved: as the latest CYCLE ENDED, not those before", () -> {
            SweepKeeper x = chain(2);
            x.root(0, 1);
            x.cycle();
            x.cycle();
            is(0, x.moved(1));
        });
        test("27 moved: stays while the next CYCLE is under way", () -> {
            SweepKeeper x = chain(2);
            x.root(0, 1);
            x.cycle();
            x.step(1);
            is(3, x.moved(1));
        });
        test("27 moved: of a CELL that make() let slide", () -> {
            SweepKeeper x = sized(16);
            x.make(ROW, 5);
            x.root(0, x.make(PAIR, 0));
            is(2, x.make(ROW, 11));
            is(7, x.moved(1));
            is(0, x.moved(2));
        });
    }

    /** Eleven WATCHED in roots; then so many of them are told, one pair given back after the other. */
    private static SweepKeeper toldOf(int tellings) {
        SweepKeeper x = new SweepKeeper();
        for (int r = 0; r < 11; r++) {
            x.root(r, x.make(WATCHED, 0));
            x.number(r, 1000 + r);
        }
        for (int left = tellings; left > 0; left -= 11) {
            int t = x.make(PAIR, 0);
            for (int r = 0; r < Math.min(left, 11); r++) {
                x.weaken(r, t);
            }
            x.cycle();
        }
        return x;
    }

    // "TELLING k, 0 .. 99 (those behind are counted alone) [..] NONE. OUTSIDE: what."
    private static void told() {
        int[] outside = {-1, 3, MIN, MAX};
        for (int what : outside) {
            test("28 told: what " + what + " is OUTSIDE",
                () -> refused(() -> toldOf(3), OUTSIDE, x -> x.told(0, what)));
            test("28 told: what " + what + " is OUTSIDE also of a TELLING that there is not",
                () -> refused(OUTSIDE, x -> x.told(-1, what)));
        }
        int[] noTellings = {-1, 3, 99, 100, MIN, MAX};
        for (int k : noTellings) {
            test("28 told: there is no TELLING " + k + " of three", () -> {
                SweepKeeper x = toldOf(3);
                for (int what = 0; what < 3; what++) {
                    is(NONE, x.told(k, what));
                }
            });
        }
        test("28 told: the first and the last of three", () -> {
            SweepKeeper x = toldOf(3);
            is(0, x.told(0, 0));
            is(1000, x.told(0, 1));
            is(1, x.told(0, 2));
            is(2, x.told(2, 0));
            is(1002, x.told(2, 1));
            is(1, x.told(2, 2));
        });
        test("28 told: TELLING 99 is the last of 100", () -> {
            SweepKeeper x = toldOf(100);
            is(100, x.about(9));
            is(0, x.told(99, 0));
            is(1000, x.told(99, 1));
            is(10, x.told(99, 2));
            is(NONE, x.told(100, 0));
        });
        test("28 told: the 101st is counted alone", () -> {
            SweepKeeper x = toldOf(101);
            is(101, x.about(9));
            is(0, x.told(99, 0));
            is(NONE, x.told(100, 0));
            is(NONE, x.told(100, 1));
            is(101, x.trace(10));
        });
        int[] numbers = {NONE, OUTSIDE, MIN, MAX};
        for (int v : numbers) {
            test("28 told: the NUMBER " + v + " is told as it is", () -> {
                SweepKeeper x = six();
                x.weaken(WATCHED, x.make(PAIR, 0));
                x.number(WATCHED, v);
                x.cycle();
                is(v, x.told(0, 1));
                is(WATCHED, x.told(0, 0));
                is(2, x.told(0, 2));
            });
        }
    }

    // "of those kept, by HANDLES, each WEAK LINK to one that was GIVEN BACK becomes NONE; a WATCHED is TOLD then"
    private static void toldOnlyWhatFaded() {
        test("28 told: a WEAK LINK that is NONE already tells nothing", () -> {
            SweepKeeper x = six();
            x.cycle();
            is(0, x.about(9));
        });
        test("28 told: a WATCHED whose CELL is kept tells nothing", () -> {
            SweepKeeper x = six();
            x.weaken(WATCHED, PAIR);
            x.cycle();
            is(0, x.about(9));
            is(PAIR, x.look(WATCHED));
        });
        test("28 told: a WATCHED that is GIVEN BACK itself tells nothing", () -> {
            SweepKeeper x = six();
            x.weaken(WATCHED, x.make(PAIR, 0));
            x.root(WATCHED, NONE);
            is(2, x.cycle());
            is(0, x.about(9));
            is(NONE, x.told(0, 0));
        });
        test("28 told: a WEAK tells nothing", () -> {
            SweepKeeper x = six();
            x.weaken(WEAK, x.make(PAIR, 0));
            x.cycle();
            is(NONE, x.look(WEAK));
            is(0, x.about(9));
        });
        test("28 told: a LINK 0 that leads on keeps it, and tells nothing", () -> {
            SweepKeeper x = six();
            x.weaken(WATCHED, x.make(PAIR, 0));
            x.link(WATCHED, 0, NEXT);
            x.cycle();
            is(0, x.about(9));
        });
        test("28 told: once alone, not again as the next CYCLE ENDS", () -> {
            SweepKeeper x = six();
            x.weaken(WATCHED, x.make(PAIR, 0));
            x.cycle();
            x.cycle();
            is(1, x.about(9));
        });
        test("28 told: two WATCHED that lead to one another, both GIVEN BACK, tell nothing", () -> {
            SweepKeeper x = new SweepKeeper();
            x.make(WATCHED, 0);
            x.make(WATCHED, 0);
            x.weaken(0, 1);
            x.weaken(1, 0);
            is(2, x.cycle());
            is(0, x.about(9));
        });
    }

    private static void abouts(SweepKeeper x, int first, int... due) {
        for (int k = 0; k < due.length; k++) {
            is(due[k], x.about(first + k));
        }
    }

    // "0 N, 1 free ints, [..] 15 their FINDINGS. OUTSIDE."
    private static void about() {
        int[] outside = {-1, 16, MIN, MAX};
        for (int what : outside) {
            test("29 about: " + what + " is OUTSIDE", () -> refused(OUTSIDE, x -> x.about(what)));
        }
        test("29 about: 0 to 15 of six CELLS, one GIVEN BACK", () -> {
            SweepKeeper x = six();
            abouts(x, 0, 256, 231, 7, 6, 1, 6, 1, 0, 1, 0, 0, 0, 0, 0, 0, 0);
        });
        test("29 about: leaves finding()", () -> {
            SweepKeeper x = six();
            x.shelf(0, 8);
            x.about(0);
            x.about(16);
            is(BEYOND, x.finding());
        });
    }

    private static void aboutAtItsEnds() {
        test("29 about: 1 is 0 in a full heap, 2 and 3 count what was made and is there", () -> {
            SweepKeeper x = sized(16);
            x.make(ROW, 14);
            abouts(x, 0, 16, 0, 1, 1);
            x.cycle();
            abouts(x, 0, 16, 16, 1, 0);
        });
        test("29 about: 2 and 3 at 500", () -> abouts(fiveHundred(), 2, 500, 500));
        test("29 about: 5, 6, 7 are of the latest CYCLE, 8 of all", () -> {
            SweepKeeper x = chain(3);
            x.root(0, 2);
            x.cycle();
            abouts(x, 4, 1, 1, 2, 1, 2);
            x.cycle();
            abouts(x, 4, 2, 1, 0, 0, 2);
            x.root(0, NONE);
            x.cycle();
            abouts(x, 4, 3, 0, 1, 0, 3);
        });
        test("29 about: 5 to 8 stay while the next CYCLE is under way", () -> {
            SweepKeeper x = six();
            x.step(1);
            abouts(x, 4, 1, 6, 1, 0, 1);
        });
        test("29 about: 9 goes on behind 100", () -> is(101, toldOf(101).about(9)));
        test("29 about: 10 and 11 from BEGIN to END", () -> {
            SweepKeeper x = chain(2);
            abouts(x, 10, 0, 0);
            x.step(0);
            abouts(x, 10, 1, 1);
            x.step(1);
            abouts(x, 10, 2, 2);
            x.step(1);
            abouts(x, 10, 2, 1);
            x.step(1);
            abouts(x, 10, 2, 1);
            x.step(1);
            abouts(x, 10, 0, 0);
        });
        test("29 about: 11 does not count MARKED ones without LINKS", () -> {
            SweepKeeper x = six();
            x.root(9, x.make(ROW, 0));
            x.step(0);
            abouts(x, 10, 7, 5);
        });
        test("29 about: 12 at 40, 13 at the last ACT and round", () -> {
            SweepKeeper x = new SweepKeeper();
            for (int k = 0; k < 40; k++) {
                x.act(8, 0, 0, 0, 0);
            }
            x.run(39);
            abouts(x, 12, 40, 39, 39, 0);
            x.run(1);
            abouts(x, 12, 40, 0, 40, 0);
        });
        test("29 about: 14 counts ACTS with a FINDING, too, 15 these alone", () -> {
            SweepKeeper x = new SweepKeeper();
            x.act(8, 0, 0, 0, 0);
            x.act(10, 1, 0, 0, 0);
            x.run(200);
            x.run(200);
            abouts(x, 14, 4, 2);
        });
        test("29 about: 14 and 15 stay with clear()", () -> {
            SweepKeeper x = new SweepKeeper();
            x.act(10, 1, 0, 0, 0);
            x.run(1);
            x.clear();
            abouts(x, 12, 0, 0, 1, 1);
        });
    }

    // "Int k of the HEAP. OUTSIDE. (What is told may be as a refusal is.)"; "behind them all is free, and 0"
    private static void word() {
        int[] outside = {-1, 256, MIN, MAX};
        for (int k : outside) {
            test("30 word: there is no int " + k + " of 256", () -> refused(OUTSIDE, x -> x.word(k)));
        }
        int[] sizes = {16, 4000};
        for (int n : sizes) {
            test("30 word: the first and the last int of " + n, () -> {
                SweepKeeper x = sized(n);
                is(0, x.word(0));
                is(0, x.word(n - 1));
                is(OUTSIDE, x.word(n));
                is(OUTSIDE, x.word(-1));
            });
        }
        test("30 word: the last int of a full heap", () -> {
            SweepKeeper x = sized(16);
            x.make(TABLE, 7);
            x.key(0, 6, 99);
            is(99, x.word(15));
            is(OUTSIDE, x.word(16));
        });
        int[] values = {UNKNOWN, OUTSIDE, NOT, MIN, MAX};
        for (int v : values) {
            test("30 word: an int that is " + v + " is told as it is", () -> {
                SweepKeeper x = six();
                x.number(WATCHED, v);
                is(v, x.word(18));
            });
        }
        test("30 word: free ints are 0 behind an END", () -> {
            SweepKeeper x = six();
            for (int h = PAIR; h <= TABLE; h++) {
                x.root(h, NONE);
            }
            x.cycle();
            for (int k = 0; k < 30; k++) {
                is(0, x.word(k));
            }
        });
        test("30 word: leaves finding()", () -> {
            SweepKeeper x = six();
            x.shelf(0, 8);
            x.word(0);
            is(BEYOND, x.finding());
        });
    }

    private static int fold(int d, int... ints) {
        int folded = d;
        for (int v : ints) {
            folded = 31 * folded + v;
        }
        return folded;
    }

    private static int foldRoots(int d, int root0) {
        int folded = fold(d, root0);
        for (int r = 1; r < 24; r++) {
            folded = fold(folded, NONE);
        }
        return folded;
    }

    // "d is 7; for each int of the HEAP that is not free [..]; then likewise for the ROOTS, and phase() (wrapping)."
    private static void digest() {
        test("31 digest: of an empty heap", () -> is(fold(foldRoots(7, NONE), 0), new SweepKeeper().digest()));
        test("31 digest: free ints do not count, however many", () -> {
            is(new SweepKeeper().digest(), sized(16).digest());
            is(new SweepKeeper().digest(), sized(4000).digest());
        });
        test("31 digest: of a full heap, with numbers that wrap", () -> {
            SweepKeeper x = sized(16);
            x.make(TABLE, 7);
            int d = fold(7, TABLE, 7, NONE, NONE, NONE, NONE, NONE, NONE, NONE);
            for (int i = 0; i < 7; i++) {
                int v = i % 2 == 0 ? MAX - i : MIN + i;
                x.key(0, i, v);
                d = fold(d, v);
            }
            is(fold(foldRoots(d, NONE), 0), x.digest());
        });
        test("31 digest: phase() counts", () -> {
            SweepKeeper x = sized(16);
            x.root(0, x.make(PAIR, 0));
            int d = foldRoots(fold(7, 0, NONE, NONE), 0);
            is(fold(d, 0), x.digest());
            x.step(0);
            is(fold(d, 1), x.digest());
            x.cycle();
            is(fold(d, 0), x.digest());
        });
        test("31 digest: ROOT 23 counts last", () -> {
            SweepKeeper x = sized(16);
            x.make(PAIR, 0);
            int d = fold(7, 0, NONE, NONE);
            for (int r = 0; r < 23; r++) {
                d = fold(d, NONE);
            }
            x.root(23, 0);
            is(fold(d, 0, 0), x.digest());
        });
        test("31 digest: as of an empty heap behind all were GIVEN BACK", () -> {
            SweepKeeper x = six();
            for (int h = PAIR; h <= TABLE; h++) {
                x.root(h, NONE);
            }
            x.cycle();
            is(new SweepKeeper().digest(), x.digest());
        });
    }
}
