/** Promises 32 to 36: the paper, forged and checked. */
public final class PaperTest {
    private static final int NONE = SweepKeeper.NONE, UNKNOWN = SweepKeeper.UNKNOWN, NOT = SweepKeeper.NOT;
    private static final int MIN = Integer.MIN_VALUE, MAX = Integer.MAX_VALUE;

    public static void main(String[] args) {
        rows();
        row();
        forge();
        plain();
        checkOfAll();
        checkEmpty();
        checkForm();
        checkLacks();
        checkLacksBehindALongerOne();
        longPapers();
        longestPaper();
        checkMeaningOfRootsAndHandles();
        checkReasons();
        checkNumbers();
        checkLinks();
        checkGivenBack();
        checkSum();
        checkGoesInOrder();
        Due.end();
    }

    // Where the numbers of written() stand.
    static final int K = 24, FIRST = 25, SECOND = 33, THIRD = 40, F = 46, BACK = 47, SUM = 49;

    /** Kept: PAIR 1 (root 2; links 3, NONE), WEAK 3 (link 0 of 1; link 5), BYTES 5; given back: 0, 2. 4 went before. */
    static SweepKeeper written() {
        SweepKeeper x = new SweepKeeper();
        x.make(0, 0);
        x.make(0, 0);
        x.make(0, 0);
        x.make(3, 0);
        x.make(0, 0);
        x.root(0, 0);
        x.root(1, 1);
        x.root(2, 2);
        x.root(3, 3);
        x.cycle();
        for (int r = 0; r < 4; r++) {
            x.root(r, NONE);
        }
        x.make(2, 1);
        x.root(2, 1);
        x.link(1, 0, 3);
        x.link(3, 0, 5);
        x.cycle();
        return x;
    }

    private static final int[] DUE = {NONE, NONE, 1, NONE, NONE, NONE, NONE, NONE, NONE, NONE, NONE, NONE, NONE, NONE,
        NONE, NONE, NONE, NONE, NONE, NONE, NONE, NONE, NONE, NONE, 3, 1, 0, 2, NONE, 1, 2, 3, NONE, 3, 1, 1, 0, 2, 1,
        5, 5, 1, 3, 0, 3, 0, 2, 0, 2};

    static int sumOf(SweepKeeper x) {
        int s = 1;
        for (int k = 0; k < x.rows() - 1; k++) {
            s = 31 * s + x.row(k);
        }
        return s;
    }

    private static void rows() {
        Due.is("rows: empty", 0, new SweepKeeper().rows());
        Due.is("rows: of nothing", 27, ofNothing().rows());
        Due.is("rows: written", 50, written().rows());
        SweepKeeper x = written();
        x.step(0);
        Due.is("rows: under way", 50, x.rows());
        x.root(2, NONE);
        x.cycle();
        x.cycle();
        Due.is("rows: anew", 30, x.rows());
    }

    private static SweepKeeper ofNothing() {
        SweepKeeper x = new SweepKeeper();
        x.cycle();
        return x;
    }

    private static void row() {
        SweepKeeper x = written();
        int s = 1;
        for (int k = 0; k < DUE.length; k++) {
            Due.is("row " + k, DUE[k], x.row(k));
            s = 31 * s + DUE[k];
        }
        Due.is("row: the sum", s, x.row(SUM));
        Due.is("row: 50", UNKNOWN, x.row(50));
        Due.is("row: -1", UNKNOWN, x.row(-1));
        Due.is("row: of an empty one", UNKNOWN, new SweepKeeper().row(0));
        x.link(1, 0, NONE);
        x.root(2, NONE);
        Due.is("row: stays as it was then", 3, x.row(31));
        Due.is("row: stays as it was then", 1, x.row(2));
    }

    private static void forge() {
        SweepKeeper x = written();
        Due.is("forge: was", 3, x.forge(K, -7));
        Due.is("forge: is", -7, x.row(K));
        Due.is("forge: was forged", -7, x.forge(K, 3));
        Due.is("forge: the last", x.row(SUM), x.forge(SUM, MIN));
        Due.is("forge: is", MIN, x.row(SUM));
        Due.is("forge: 50", UNKNOWN, x.forge(50, 1));
        Due.is("forge: -1", UNKNOWN, x.forge(-1, 1));
        Due.is("forge: of an empty one", UNKNOWN, new SweepKeeper().forge(0, 0));
        x.cycle();
        Due.is("forge: written anew", NONE, x.check());
    }

    private static void plain() {
        SweepKeeper x = written();
        Due.is("plain: none", 0, x.plain());
        x.forge(0, 5);
        x.forge(0, 6);
        x.forge(F, 9);
        x.forge(SUM, 1);
        x.forge(K, 3);
        Due.is("plain: three others", 3, x.plain());
        for (int k = 0; k < DUE.length; k++) {
            Due.is("plain: row " + k, DUE[k], x.row(k));
        }
        Due.is("plain: right", NONE, x.check());
        x.forge(0, 5);
        x.forge(0, NONE);
        Due.is("plain: back already", 0, x.plain());
        Due.is("plain: of an empty one", 0, new SweepKeeper().plain());
    }

    private static void checkEmpty() {
        SweepKeeper x = new SweepKeeper();
        Due.is("check: empty", NOT, x.check());
        x.step(0);
        Due.is("check: of nothing", NONE, x.check());
        x.size(20);
        Due.is("check: empty again", NOT, x.check());
    }

    private static void due(String what, SweepKeeper x, int k, int v, int want) {
        x.forge(k, v);
        Due.is("check: " + what, want, x.check());
        x.plain();
    }

    private static void checkOfAll() {
        SweepKeeper x = written();
        Due.is("check: right", NONE, x.check());
        Due.is("check: changes nothing", 0, x.plain());
    }

    private static void checkForm() {
        SweepKeeper x = written();
        due("K below 0", x, K, -1, K);
        due("K above 500", x, K, 501, K);
        due("K of 2: F is 5", x, K, 2, THIRD);
        due("links below 0", x, FIRST + 5, -1, FIRST + 5);
        due("links above 300", x, FIRST + 5, 301, FIRST + 5);
        due("F below 0", x, F, -1, F);
        due("F above 500", x, F, 501, F);
        due("F too low", x, F, 1, F);
        due("F too high", x, F, 3, F);
        due("F far", x, F, MAX, F);
    }

    private static void checkLacks() {
        SweepKeeper x = written();
        // A fourth kept one would begin at 46; its links' number would lie behind the end.
        due("K above what there is", x, K, 500, 50);
        due("a fourth lacks", x, K, 4, 50);
        due("links lack", x, THIRD + 5, 300, 50);
        due("links up to the last: F lacks", x, THIRD + 5, 4, 50);
        due("links up to the sum: it is F", x, THIRD + 5, 3, 49);
        x.forge(THIRD + 5, 3);
        x.forge(SUM, 0);
        Due.is("check: F is the last, THE SUM lacks", 49, x.check());
        x.plain();
        due("of nothing: F lacks", ofNothing(), 24, 1, 27);
        due("of nothing: no sum behind F", ofNothing(), 25, 1, 25);
    }

    /** A longer paper before it must leave nothing that is read behind the last number. */
    private static void checkLacksBehindALongerOne() {
        SweepKeeper x = new SweepKeeper();
        for (int k = 0; k < 3; k++) {
            x.root(k, x.make(1, 10));
        }
        x.cycle();
        for (int k = 0; k < 3; k++) {
            x.root(k, NONE);
        }
        x.root(0, x.make(2, 0));
        x.cycle();
        Due.is("longer: rows", 36, x.rows());
        // With two links the form is right by chance: 1 stands where F would, and one number and THE SUM behind it.
        int[] links = {32, 32, 34, 35, 36, 36, 36, 36};
        for (int k = 0; k < links.length; k++) {
            due("longer: links " + (k + 1), x, 30, k + 1, links[k]);
        }
        for (int k = 2; k < 9; k++) {
            due("longer: kept " + k, x, 24, k, 36);
        }
    }

    private static void longPapers() {
        SweepKeeper x = new SweepKeeper();
        chainByRuns(x, 85);
        Due.is("long: full", 1, x.about(1));
        Due.is("long: none is given back", 0, x.cycle());
        Due.is("long: rows", 27 + 85 * 8, x.rows());
        Due.is("long: right", NONE, x.check());
        x.size(4000);
        chainByRuns(x, 500);
        Due.is("long: none is given back", 0, x.cycle());
        Due.is("long: rows of 500", 27 + 500 * 8, x.rows());
        Due.is("long: right", NONE, x.check());
        due("long: K 501", x, 24, 501, 24);
        due("long: number 501", x, 25 + 4, 501, 25 + 4);
        x.root(0, NONE);
        Due.is("long: all are given back", 500, x.cycle());
        Due.is("long: rows of none", 27 + 500, x.rows());
        Due.is("long: right", NONE, x.check());
        due("long: F 501", x, 25, 501, 25);
    }

    /** Near the most numbers that a paper can have. */
    private static void longestPaper() {
        SweepKeeper x = new SweepKeeper();
        x.size(4000);
        chainByRuns(x, 490);
        for (int r = 1; r < 9; r++) {
            x.root(r, x.make(1, 300));
        }
        x.root(9, x.make(1, 112));
        Due.is("longest: full", 0, x.about(1));
        Due.is("longest: a cycle", 0, x.cycle());
        Due.is("longest: rows", 27 + 6 * 499 + 490 * 2 + 8 * 300 + 112, x.rows());
        Due.is("longest: right", NONE, x.check());
        x.image();
        x.forge(6500, 9);
        x.load();
        Due.is("longest: right again", NONE, x.check());
    }

    /** Each pair's left link leads to the one made before it; root 0 has the last. */
    static void chainByRuns(SweepKeeper x, int n) {
        x.act(0, 0, 0, 0, 0);
        x.act(1, 0, 0, 1, 0);
        x.act(3, 0, 0, 0, 0);
        x.act(4, 0, 1, 0, 0);
        for (int left = 4 * n; left > 0; left -= 200) {
            x.run(Math.min(left, 200));
        }
        Due.is("long: made", n, x.about(3));
    }

    private static void checkMeaningOfRootsAndHandles() {
        SweepKeeper x = written();
        due("root: not kept", x, 0, 0, 0);
        due("root: given back", x, 23, 2, 23);
        due("root: -2", x, 5, -2, 5);
        due("root: far", x, 5, MAX, 5);
        due("root: another kept one", x, 5, 5, SUM);
        due("handle: not 0 .. 499", x, THIRD, 500, 39);
        x.forge(39, NONE);
        due("handle: not 0 .. 499", x, THIRD, 500, THIRD);
        x.forge(39, NONE);
        due("handle: -1", x, THIRD, -1, THIRD);
        x.forge(39, NONE);
        due("handle: one before it", x, THIRD, 1, THIRD);
        due("handle: another", x, THIRD, 499, 39);
        x.forge(39, 499);
        due("handle: another, linked", x, THIRD, 499, SUM);
    }

    private static void reason(int reason, int first, int second, int want) {
        SweepKeeper x = written();
        x.forge(THIRD + 1, reason);
        x.forge(THIRD + 2, first);
        x.forge(THIRD + 3, second);
        Due.is("check: reason " + reason + " " + first + " " + second, want, x.check());
    }

    private static void checkReasons() {
        int one = THIRD + 1, two = THIRD + 2, three = THIRD + 3;
        reason(-1, 0, 0, one);
        reason(6, 0, 0, one);
        reason(0, 0, NONE, SUM);
        reason(0, 23, NONE, SUM);
        reason(0, 24, NONE, two);
        reason(0, NONE, NONE, two);
        reason(0, 0, 0, three);
        reason(1, 1, 0, SUM);
        reason(1, 1, 299, SUM);
        reason(1, 1, 300, three);
        reason(1, 1, -1, three);
        reason(1, 2, 0, two);
        reason(1, NONE, 0, two);
        reason(1, 500, 0, two);
        reason(2, 0, 0, SUM);
        reason(2, 499, 299, SUM);
        reason(2, 500, 0, two);
        reason(2, NONE, 0, two);
        reason(2, 0, 300, three);
        reason(2, 0, -1, three);
        reason(3, 0, 0, SUM);
        reason(3, 499, 299, SUM);
        reason(3, 499, 300, three);
        reason(3, 500, 0, two);
        reason(3, -2, 0, two);
        reason(3, 0, NONE, three);
        reason(3, NONE, 0, SUM);
        reason(3, NONE, 23, SUM);
        reason(3, NONE, 24, three);
        reason(3, NONE, NONE, three);
        reason(4, 0, 0, SUM);
        reason(4, 499, 0, SUM);
        reason(4, 500, 0, two);
        reason(4, NONE, 0, two);
        reason(4, 0, 1, three);
        reason(4, 0, NONE, three);
        reason(5, NONE, NONE, SUM);
        reason(5, 0, NONE, two);
        reason(5, NONE, 0, three);
    }

    private static void checkNumbers() {
        SweepKeeper x = written();
        due("number 0", x, FIRST + 4, 0, FIRST + 4);
        due("number K + 1", x, THIRD + 4, 4, THIRD + 4);
        due("number of one before", x, THIRD + 4, 1, THIRD + 4);
        due("number not above that of the one named", x, SECOND + 4, 1, SECOND + 4);
        due("number is that of a later one", x, FIRST + 4, 3, SECOND + 4);
        x.forge(FIRST + 4, 2);
        x.forge(SECOND + 4, 1);
        Due.is("check: below that of the one named", SECOND + 4, x.check());
        x.plain();
        x.forge(FIRST + 1, 1);
        x.forge(FIRST + 2, 5);
        x.forge(FIRST + 3, 0);
        Due.is("check: the one named stands behind it", FIRST + 4, x.check());
        x.forge(THIRD + 4, -5);
        Due.is("check: above that of one behind it, which is wrong", THIRD + 4, x.check());
        x.plain();
        x.forge(SECOND + 2, 3);
        Due.is("check: not above its own", SECOND + 4, x.check());
        x.plain();
        x.forge(THIRD, 1);
        x.forge(39, NONE);
        x.forge(THIRD + 4, 1);
        Due.is("check: the handle that is there twice", THIRD, x.check());
    }

    private static void checkLinks() {
        SweepKeeper x = written();
        due("link to none", x, FIRST + 6, NONE, SUM);
        due("link to another", x, FIRST + 7, 5, SUM);
        due("link to one given back", x, FIRST + 7, 2, FIRST + 7);
        due("link to one never kept", x, FIRST + 6, 4, FIRST + 6);
        due("link below NONE", x, FIRST + 6, -2, FIRST + 6);
        due("link above 499", x, 39, 500, 39);
    }

    private static void checkGivenBack() {
        SweepKeeper x = written();
        due("the first below 0", x, BACK, -1, BACK);
        due("not above the one before it", x, BACK + 1, 0, BACK + 1);
        due("the first above the second", x, BACK, 2, BACK + 1);
        due("above 499", x, BACK + 1, 500, BACK + 1);
        due("499", x, BACK + 1, 499, SUM);
        due("a kept one's", x, BACK + 1, 5, BACK + 1);
        due("a kept one's, the first", x, BACK, 1, BACK);
        due("another", x, BACK + 1, 4, SUM);
    }

    private static void checkSum() {
        SweepKeeper x = written();
        due("the sum", x, SUM, x.row(SUM) + 1, SUM);
        x.forge(BACK + 1, 4);
        Due.is("check: forged", SUM, x.check());
        x.forge(SUM, sumOf(x));
        Due.is("check: forged with its sum", NONE, x.check());
        Due.is("check: two others", 2, x.plain());
    }

    private static void checkGoesInOrder() {
        SweepKeeper x = written();
        x.forge(0, 400);
        x.forge(SUM, 0);
        Due.is("check: meaning ahead of the sum", 0, x.check());
        x.forge(F, 7);
        Due.is("check: form ahead of meaning", F, x.check());
        x.forge(SECOND + 5, 900);
        Due.is("check: the first of form", SECOND + 5, x.check());
        x.plain();
        x.forge(FIRST + 1, 9);
        x.forge(SECOND + 1, 9);
        x.forge(BACK, 9);
        Due.is("check: the first of meaning", FIRST + 1, x.check());
    }
}
