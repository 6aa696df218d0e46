/** Every sentence of promises 17 to 21 by itself, at its boundaries. */
public final class TableBoundaryTest {
    private static final Due DUE = new Due("TableBoundaryTest");

    public static void main(String[] args) {
        entry();
        entryOfTheLongest();
        entryRefused();
        worth();
        block();
        blockRefused();
        stair();
        stairRefused();
        recur();
        recurResult();
        DUE.end();
    }

    private static SharesOfSeries with(long... numbers) {
        SharesOfSeries x = new SharesOfSeries();
        Made.series(x, numbers);
        return x;
    }

    /** 1 by 1 - x of LENGTH 40. */
    private static SharesOfSeries allOnes() {
        long[] ones = new long[41];
        java.util.Arrays.fill(ones, 1);
        return with(ones);
    }

    // Pairs that are just beyond the table of a SERIES of this LENGTH, and those at the ends of the ints.
    private static int[][] noPairs(int n) {
        return new int[][] {{-1, 0}, {0, -1}, {-1, -1}, {n + 1, 0}, {0, n + 1}, {n, 1}, {1, n}, {n + 1, -1}, {-1, n + 1},
            {n + 2, -2}, {Made.HIGH, 0}, {0, Made.HIGH}, {Made.HIGH, 1}, {1, Made.HIGH}, {Made.HIGH, Made.HIGH}, {Made.LOW, 0},
            {0, Made.LOW}, {Made.LOW, Made.LOW}, {Made.HIGH, Made.LOW}, {Made.LOW, Made.HIGH}, {Made.HIGH, -Made.HIGH},
            {n / 2 + 1, n - n / 2}};
    }

    private static int[] noSeriesOf(int known) {
        return new int[] {-1, known, known + 1, 9, 10, Made.LOW, Made.HIGH};
    }

    private static void entry() {
        DUE.about(17, "THE RESULT becomes THE ENTRY of l, m: in how many NUMBERS it AGREES.");
        SharesOfSeries x = with(7);
        DUE.is("LENGTH 0", 1, x.entry(0, 0, 0));
        Made.terms(DUE, "LENGTH 0", x, 0, 7);
        Made.terms(DUE, "LENGTH 0", x, 1, 1);
        x = with(0);
        DUE.is("LENGTH 0, 0", 1, x.entry(0, 0, 0));
        Made.zeroResult(DUE, "LENGTH 0, 0", x);
        x = with(2, 4, 8, 16);
        DUE.is("0, 3", 4, x.entry(0, 0, 3));
        Made.terms(DUE, "2 by 1 - 2x", x, 0, 2);
        Made.terms(DUE, "2 by 1 - 2x", x, 1, 1, 30009);
        DUE.is("3, 0", 4, x.entry(0, 3, 0));
        Made.terms(DUE, "all terms", x, 0, 2, 4, 8, 16);
        Made.terms(DUE, "all terms", x, 1, 1);
        DUE.is("1, 0", 2, x.entry(0, 1, 0));
        Made.terms(DUE, "two terms", x, 0, 2, 4);
        x = with(3, 0, 0, 0, 1);
        DUE.is("agrees in more than l + m + 1", 4, x.entry(0, 0, 0));
        DUE.is("agrees in fewer", 4, x.entry(0, 2, 2));
        Made.terms(DUE, "3", x, 0, 3);
        DUE.is("0, 4", 5, x.entry(0, 0, 4));
        DUE.is("4, 0", 5, x.entry(0, 4, 0));
        SharesOfSeries two = Made.modulo(2);
        Made.series(two, 1, 1, 1);
        DUE.is("modulo 2", 3, two.entry(0, 1, 1));
        Made.terms(DUE, "1 by 1 + x", two, 0, 1);
        Made.terms(DUE, "1 by 1 + x", two, 1, 1, 1);
    }

    private static void entryOfTheLongest() {
        SharesOfSeries ones = allOnes();
        for (int l = 0; l < 40; l++) DUE.is("pair " + l, 41, ones.entry(0, l, 40 - l));
        Made.terms(DUE, "1 by 1 - x", ones, 0, 1);
        Made.terms(DUE, "1 by 1 - x", ones, 1, 1, 30010);
        DUE.is("40, 0", 41, ones.entry(0, 40, 0));
        DUE.is("all terms", 40, ones.degree(0));
        // 1 and x^40: below of DEGREE 40.
        long[] last = new long[41];
        last[0] = 1;
        last[40] = 1;
        SharesOfSeries x = with(last);
        DUE.is("0, 40", 41, x.entry(0, 0, 40));
        DUE.is("the greatest below", 40, x.degree(1));
        DUE.is("its TERM", 30010, x.term(1, 40));
        DUE.is("20, 20", 40, x.entry(0, 20, 20));
        Made.terms(DUE, "1 by 1", x, 1, 1);
    }

    private static void entryRefused() {
        SharesOfSeries x = with(1, 2, 3, 4, 5);
        DUE.about(17, "UNKNOWN");
        DUE.is("none yet", SharesOfSeries.UNKNOWN, new SharesOfSeries().entry(0, 0, 0));
        for (int no : noSeriesOf(1)) DUE.is("f " + no, SharesOfSeries.UNKNOWN, x.entry(no, 0, 0));
        DUE.about(17, "OUTSIDE: l, m are below 0, l + m is above the LENGTH.");
        SharesOfSeries shortest = with(1);
        SharesOfSeries longest = allOnes();
        for (int[] w : noPairs(4)) DUE.is("LENGTH 4 " + w[0] + " " + w[1], SharesOfSeries.OUTSIDE, x.entry(0, w[0], w[1]));
        for (int[] w : noPairs(0)) DUE.is("LENGTH 0 " + w[0] + " " + w[1], SharesOfSeries.OUTSIDE, shortest.entry(0, w[0], w[1]));
        for (int[] w : noPairs(40)) DUE.is("LENGTH 40 " + w[0] + " " + w[1], SharesOfSeries.OUTSIDE, longest.entry(0, w[0], w[1]));
        Made.zeroResult(DUE, "THE RESULT stays", x);
    }

    private static void worth() {
        DUE.about(18, "THE WORTH.");
        SharesOfSeries x = with(7);
        DUE.is("LENGTH 0", 1, x.worth(0, 0, 0));
        x = with(-1, 5);
        DUE.is("0, 1", 30010, x.worth(0, 0, 1));
        DUE.is("1, 0", 1, x.worth(0, 1, 0));
        SharesOfSeries ones = allOnes();
        DUE.is("0, 40", 1, ones.worth(0, 0, 40));
        DUE.is("40, 0", 1, ones.worth(0, 40, 0));
        DUE.is("39, 1", 1, ones.worth(0, 39, 1));
        DUE.is("1, 39: like rows", 0, ones.worth(0, 1, 39));
        DUE.is("20, 20", 0, ones.worth(0, 20, 20));
        // x times 1: at 1, m the diagonal; at 2, m nothing; at 0, m all is 0.
        x = with(0, 1, 0, 0, 0, 0);
        DUE.is("0, 3 of x", 0, x.worth(0, 0, 3));
        DUE.is("1, 3 of x", 1, x.worth(0, 1, 3));
        DUE.is("2, 3 of x", 0, x.worth(0, 2, 3));
        // Tables with 0 on the diagonal: 0 2, 15006 0; then 0 1 0, 0 0 1, 1 0 0; then 0 0, 1 0.
        SharesOfSeries rows = with(1, 0, 0, 1, 0);
        DUE.is("two rows, changed once", 30010, with(2, 0, 15006, 0).worth(0, 1, 2));
        DUE.is("three rows, changed twice", 1, rows.worth(0, 1, 3));
        DUE.is("two rows, one of 0", 0, rows.worth(0, 2, 2));
        DUE.about(18, "UNKNOWN");
        DUE.is("none yet", SharesOfSeries.UNKNOWN, new SharesOfSeries().worth(0, 0, 0));
        for (int no : noSeriesOf(1)) DUE.is("f " + no, SharesOfSeries.UNKNOWN, x.worth(no, 0, 0));
        DUE.about(18, "OUTSIDE.");
        SharesOfSeries shortest = with(1);
        for (int[] w : noPairs(5)) DUE.is("LENGTH 5 " + w[0] + " " + w[1], SharesOfSeries.OUTSIDE, x.worth(0, w[0], w[1]));
        for (int[] w : noPairs(0)) DUE.is("LENGTH 0 " + w[0] + " " + w[1], SharesOfSeries.OUTSIDE, shortest.worth(0, w[0], w[1]));
        for (int[] w : noPairs(40)) DUE.is("LENGTH 40 " + w[0] + " " + w[1], SharesOfSeries.OUTSIDE, ones.worth(0, w[0], w[1]));
    }

    private static void block() {
        DUE.about(19, "THE BLOCK of l, m: what = 0, 1 its least pair, 2 its SIDE (NONE).");
        SharesOfSeries x = with(5, 7);
        DUE.is("least l", 0, x.block(0, 0, 0, 0));
        DUE.is("least m", 0, x.block(0, 0, 0, 1));
        DUE.is("SIDE 1", 1, x.block(0, 0, 0, 2));
        DUE.is("1, 0 least l", 1, x.block(0, 1, 0, 0));
        DUE.is("1, 0 SIDE", SharesOfSeries.NONE, x.block(0, 1, 0, 2));
        DUE.is("0, 1 least m", 1, x.block(0, 0, 1, 1));
        DUE.is("0, 1 SIDE", SharesOfSeries.NONE, x.block(0, 0, 1, 2));
        SharesOfSeries ones = allOnes();
        DUE.is("20, 20 least l", 0, ones.block(0, 20, 20, 0));
        DUE.is("20, 20 least m", 1, ones.block(0, 20, 20, 1));
        DUE.is("20, 20 SIDE", SharesOfSeries.NONE, ones.block(0, 20, 20, 2));
        DUE.is("40, 0 least l", 40, ones.block(0, 40, 0, 0));
        DUE.is("40, 0 least m", 0, ones.block(0, 40, 0, 1));
        Made.zeroResult(DUE, "THE RESULT stays", ones);
        // x^39 and 2 x^40: the last pairs with a BLOCK of their own.
        SharesOfSeries last = with(Made.behindZeros(39, 1, 2));
        DUE.is("39, 1 least l", 39, last.block(0, 39, 1, 0));
        DUE.is("39, 1 least m", 1, last.block(0, 39, 1, 1));
        DUE.is("39, 1 SIDE", SharesOfSeries.NONE, last.block(0, 39, 1, 2));
        DUE.is("39, 0 SIDE", 1, last.block(0, 39, 0, 2));
        DUE.is("no CAUSE", 0, last.cause());
    }

    private static void blockRefused() {
        SharesOfSeries x = with(1, 2, 3, 4, 5);
        DUE.about(19, "UNKNOWN");
        DUE.is("none yet", SharesOfSeries.UNKNOWN, new SharesOfSeries().block(0, 0, 0, 0));
        for (int no : noSeriesOf(1)) DUE.is("f " + no, SharesOfSeries.UNKNOWN, x.block(no, 0, 0, 0));
        DUE.about(19, "OUTSIDE: l, m, what");
        SharesOfSeries longest = allOnes();
        for (int what = 0; what <= 2; what++) {
            for (int[] w : noPairs(4)) DUE.is("pair " + w[0] + " " + w[1], SharesOfSeries.OUTSIDE, x.block(0, w[0], w[1], what));
            for (int[] w : noPairs(40)) DUE.is("pair " + w[0] + " " + w[1], SharesOfSeries.OUTSIDE, longest.block(0, w[0], w[1], what));
        }
        for (int what : new int[] {-1, 3, 4, Made.LOW, Made.HIGH}) {
            DUE.is("what " + what, SharesOfSeries.OUTSIDE, x.block(0, 0, 0, what));
        }
        DUE.is("no CAUSE", 0, x.cause());
        DUE.about(19, "ZERO: the ENTRY is 0 by 1.");
        SharesOfSeries zero = with(0, 0, 1);
        for (int what = 0; what <= 2; what++) {
            for (int[] w : new int[][] {{0, 0}, {1, 0}, {0, 1}, {1, 1}, {0, 2}}) {
                DUE.is("pair " + w[0] + " " + w[1], Made.ZERO, zero.block(0, w[0], w[1], what));
            }
        }
        DUE.is("causes", 15, zero.causes(5));
        DUE.is("2, 0 is x^2", 2, zero.block(0, 2, 0, 0));
        Made.zeroResult(DUE, "THE RESULT stays", x);
    }

    private static void stair() {
        DUE.about(20, "a(k) of STAIRS.");
        DUE.is("LENGTH 0", 30010, with(-1).stair(0, 0));
        SharesOfSeries x = with(4, -6);
        DUE.is("a(0)", 4, x.stair(0, 0));
        DUE.is("a(1) at the LENGTH", 30005, x.stair(0, 1));
        x = with(4, 2, 6);
        DUE.is("a(2) at the LENGTH", 30008, x.stair(0, 2));
        // 1 and x by (1 and x by (1 and ..)), forty times: f is 1 and x by f.
        long[] c = new long[41];
        c[0] = 1;
        for (int k = 1; k <= 40; k++) {
            long sum = k == 1 ? 1 : 0;
            for (int j = 1; j < k; j++) sum -= c[j] * c[k - j];
            c[k] = Math.floorMod(sum, 30011L);
        }
        SharesOfSeries deep = with(c);
        for (int k = 0; k <= 40; k++) DUE.is("a(" + k + ") of LENGTH 40", 1, deep.stair(0, k));
        Made.zeroResult(DUE, "THE RESULT stays", deep);
    }

    private static void stairRefused() {
        SharesOfSeries x = with(1, 2, 3);
        DUE.about(20, "UNKNOWN");
        DUE.is("none yet", SharesOfSeries.UNKNOWN, new SharesOfSeries().stair(0, 0));
        for (int no : noSeriesOf(1)) DUE.is("f " + no, SharesOfSeries.UNKNOWN, x.stair(no, 0));
        DUE.about(20, "OUTSIDE: k is not 0 to the LENGTH");
        for (int k : new int[] {-1, 3, 4, Made.LOW, Made.HIGH}) DUE.is("k " + k, SharesOfSeries.OUTSIDE, x.stair(0, k));
        DUE.is("LENGTH 0", SharesOfSeries.OUTSIDE, with(1).stair(0, 1));
        DUE.is("LENGTH 40", SharesOfSeries.OUTSIDE, allOnes().stair(0, 41));
        DUE.about(20, "ZERO: one of a(1) to a(k - 1) is 0.");
        SharesOfSeries zero = with(0, 0, 0, 0);
        DUE.is("a(0) of 0", 0, zero.stair(0, 0));
        DUE.is("a(1) of 0", 0, zero.stair(0, 1));
        DUE.is("a(2) of 0", Made.ZERO, zero.stair(0, 2));
        DUE.is("a(3) of 0", Made.ZERO, zero.stair(0, 3));
        DUE.is("causes", 2, zero.causes(5));
        // a(2) is 0 here, a(1) is not.
        SharesOfSeries second = with(1, 4, 0, 5);
        DUE.is("a(1)", 4, second.stair(0, 1));
        DUE.is("a(2) is 0", 0, second.stair(0, 2));
        DUE.is("a(3)", Made.ZERO, second.stair(0, 3));
        SharesOfSeries ones = allOnes();
        DUE.is("a(3) is 0", 0, ones.stair(0, 3));
        for (int k = 4; k <= 40; k++) DUE.is("a(" + k + ")", Made.ZERO, ones.stair(0, k));
    }

    private static void recur() {
        DUE.about(21, "The least r so that some q with q(0) = 1, of DEGREE r at most, makes of q times the SERIES one without TERMS"
            + " of x^r to x^n: r (0 to n + 1).");
        DUE.is("0 of LENGTH 0", 0, with(0).recur(0));
        DUE.is("n + 1 of LENGTH 0", 1, with(1).recur(0));
        DUE.is("0 of LENGTH 40", 0, with(new long[41]).recur(0));
        for (int k = 0; k <= 40; k++) {
            DUE.is("x^" + k + " at the end: n + 1", k + 1, with(Made.behindZeros(k, 1)).recur(0));
            long[] c = new long[41];
            c[k] = 1;
            DUE.is("x^" + k + " of LENGTH 40", k + 1, with(c).recur(0));
        }
        DUE.is("1 by 1 - x", 1, allOnes().recur(0));
        DUE.is("and another at the end", 2, with(1, 1, 2).recur(0));
        DUE.is("and another later", 3, with(1, 1, 1, 2).recur(0));
        DUE.is("q of lesser DEGREE than r", 3, with(1, 1, 2, 2, 2, 2).recur(0));
        DUE.is("Fibonacci", 2, with(1, 1, 2, 3, 5, 8, 13, 21).recur(0));
        DUE.is("Fibonacci, then another", 3, with(1, 1, 2, 3, 6).recur(0));
        DUE.is("Fibonacci, then another later", 4, with(1, 1, 2, 3, 5, 9).recur(0));
        DUE.is("three, with a 0 between", 3, with(1, 0, 0, 2, 0, 0, 4, 0, 0, 8).recur(0));
        SharesOfSeries two = Made.modulo(2);
        Made.series(two, 1, 0, 1, 1);
        DUE.is("modulo 2", 2, two.recur(0));
        DUE.about(21, "UNKNOWN.");
        SharesOfSeries x = with(1);
        DUE.is("none yet", SharesOfSeries.UNKNOWN, new SharesOfSeries().recur(0));
        for (int no : noSeriesOf(1)) DUE.is("f " + no, SharesOfSeries.UNKNOWN, x.recur(no));
    }

    private static void recurResult() {
        DUE.about(21, "THE RESULT becomes the ENTRY of DEGREES r - 1, r (0 by 1, if r is 0), if 2 r - 1 is n at most; else it stays.");
        for (int n = 0; n <= 40; n++) {
            for (int r = 0; r <= n + 1; r++) resultAfter(n, r);
        }
        SharesOfSeries x = with(5, 10);
        DUE.is("r 1, n 1", 1, x.recur(0));
        Made.terms(DUE, "5 by 1 - 2x", x, 0, 5);
        Made.terms(DUE, "5 by 1 - 2x", x, 1, 1, 30009);
        Made.series(x, 3);
        DUE.is("r 1, n 0", 1, x.recur(1));
        Made.terms(DUE, "stays", x, 0, 5);
        Made.series(x, 0);
        DUE.is("r 0, n 0", 0, x.recur(2));
        Made.zeroResult(DUE, "r 0", x);
    }

    // x^(r - 1) of LENGTH n; THE RESULT is 4 ahead.
    private static void resultAfter(int n, int r) {
        SharesOfSeries x = with(4);
        x.entry(0, 0, 0);
        long[] c = new long[n + 1];
        if (r > 0) c[r - 1] = 1;
        Made.series(x, c);
        DUE.is("r", r, x.recur(1));
        boolean becomes = 2 * r - 1 <= n;
        DUE.is("DEGREE above, r " + r + ", n " + n, becomes ? r - 1 : 0, x.degree(0));
        DUE.is("TERM above, r " + r + ", n " + n, becomes ? (r == 0 ? 0 : 1) : 4, x.term(0, becomes ? r - 1 : 0));
        DUE.is("DEGREE below, r " + r + ", n " + n, 0, x.degree(1));
    }
}
