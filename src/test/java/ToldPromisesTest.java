/** Promises 25 to 31: the result, and what is told. */
public final class ToldPromisesTest {
    private static final Due DUE = new Due("ToldPromisesTest");

    public static void main(String[] args) {
        promise25Degree();
        promise26Term();
        promise27Value();
        promise28And29Causes();
        promise30Count();
        promise31Digest();
        promise31WhatItLeavesOut();
        DUE.end();
    }

    /** An object whose result is (2 + 3 x^2) by (1 - x). */
    private static SharesOfSeries withResult() {
        SharesOfSeries x = new SharesOfSeries();
        Made.series(x, 2, 2, 5, 5, 5, 5);
        x.entry(0, 2, 1);
        return x;
    }

    private static void promise25Degree() {
        SharesOfSeries x = new SharesOfSeries();
        DUE.is("of 0", -1, x.degree(0));
        DUE.is("of 1", 0, x.degree(1));
        x = withResult();
        DUE.is("of 2 + 3 x^2", 2, x.degree(0));
        DUE.is("of 1 - x", 1, x.degree(1));
        for (int side : Made.NO_SIDES) DUE.is("side " + side, SharesOfSeries.OUTSIDE, x.degree(side));
        Made.series(x, new long[41]);
        DUE.is("no cause", 0, x.cause());
        SharesOfSeries y = new SharesOfSeries();
        long[] numbers = new long[41];
        numbers[0] = 1;
        numbers[40] = 1;
        Made.series(y, numbers);
        y.entry(0, 40, 0);
        DUE.is("the greatest above", 40, y.degree(0));
        y.entry(0, 0, 40);
        DUE.is("the greatest below", 40, y.degree(1));
    }

    private static void promise26Term() {
        SharesOfSeries x = withResult();
        long[] above = {2, 0, 3, 0}, below = {1, 30010, 0, 0};
        for (int k = 0; k < 4; k++) {
            DUE.is("above " + k, above[k], x.term(0, k));
            DUE.is("below " + k, below[k], x.term(1, k));
        }
        for (int k : new int[] {-1, 40, 41, 42, 43, 60, Made.LOW, Made.HIGH}) {
            DUE.is("no term above " + k, 0, x.term(0, k));
            DUE.is("no term below " + k, 0, x.term(1, k));
        }
        for (int side : Made.NO_SIDES) {
            DUE.is("side " + side, SharesOfSeries.OUTSIDE, x.term(side, 0));
            DUE.is("side " + side, SharesOfSeries.OUTSIDE, x.term(side, -1));
        }
    }

    private static void promise27Value() {
        SharesOfSeries x = new SharesOfSeries();
        DUE.is("0 by 1", 0, x.value(Made.LOW));
        x = withResult();
        DUE.is("at 0", 2, x.value(0));
        DUE.is("at 1", SharesOfSeries.NONE, x.value(1));
        DUE.is("at 30012", SharesOfSeries.NONE, x.value(30012));
        DUE.is("at 2", 30011 - 14, x.value(2));
        DUE.is("at -1", (5 + 30011) / 2, x.value(-1));
        DUE.is("at 30010", (5 + 30011) / 2, x.value(30010));
        DUE.is("at 3: 29 by -2", (30011 - 29) / 2, x.value(3));
        DUE.is("no cause", 0, x.cause());
        DUE.is("at LOW", x.value(Math.floorMod(Made.LOW, 30011)), x.value(Made.LOW));
        DUE.is("at HIGH", x.value(Math.floorMod(Made.HIGH, 30011)), x.value(Made.HIGH));
    }

    private static void promise28And29Causes() {
        SharesOfSeries x = new SharesOfSeries();
        for (int c : new int[] {0, 6, -1, Made.LOW, Made.HIGH}) {
            DUE.is("causes " + c, SharesOfSeries.OUTSIDE, x.causes(c));
        }
        DUE.is("before any", 0, x.cause());
        x.lose(0);
        DUE.is("null", 1, x.cause());
        x.sheet(0, 0, 2);
        x.put(0, 0, 2, 1);
        DUE.is("index", 2, x.cause());
        x.sheet(0, 0, -1);
        DUE.is("size", 3, x.cause());
        x.put(0, 1, 0, 1);
        DUE.is("cast", 4, x.cause());
        x.share(0, 0, 0, 0, 0);
        DUE.is("zero", 5, x.cause());
        DUE.is("a refusal", SharesOfSeries.UNKNOWN, x.lose(4));
        DUE.is("leaves it", 5, x.cause());
        DUE.is("success", 2, x.lose(0));
        DUE.is("leaves it", 5, x.cause());
        x.lose(0);
        DUE.is("null again", 1, x.cause());
        int[] want = {2, 1, 1, 1, 1};
        for (int c = 1; c <= 5; c++) DUE.is("causes " + c, want[c - 1], x.causes(c));
        x.sheet(1, 2, 1);
        x.series(1, 0, 0);
        x.clear();
        x.wipe();
        x.prime(5);
        DUE.is("stays", 1, x.cause());
        DUE.is("stays", 2, x.causes(1));
    }

    private static void promise30Count() {
        SharesOfSeries x = Made.modulo(13);
        x.sheet(0, 0, 0);
        x.sheet(2, 1, 5);
        x.sheet(3, 1, 5);
        x.series(2, 0, 4);
        x.series(2, 0, 0);
        for (int i = 0; i < 5; i++) x.point(i, 1);
        DUE.is("P", 13, x.count(0));
        DUE.is("series", 2, x.count(1));
        DUE.is("points", 5, x.count(2));
        DUE.is("sheets", 3, x.count(3));
        for (int what : new int[] {-1, 4, Made.LOW, Made.HIGH}) {
            DUE.is("count " + what, SharesOfSeries.OUTSIDE, x.count(what));
        }
        x.lose(0);
        DUE.is("sheets", 2, x.count(3));
        x.sheet(0, 0, 1);
        x.sheet(1, 0, 1);
        DUE.is("sheets", 4, x.count(3));
    }

    private static void promise31Digest() {
        SharesOfSeries x = Made.modulo(11);
        Made.sheet(x, 0, 3, Long.MAX_VALUE, Long.MIN_VALUE, -1);
        Made.sheet(x, 2, 0, 100, -100);
        x.sheet(3, 1, 0);
        Made.sheet(x, 1, 2, 1, 2, 4, 8);
        x.series(1, 0, 3);
        x.series(2, 0, 1);
        x.lose(1);
        x.point(9, 20);
        x.point(-1, -2);
        x.entry(0, 0, 1);
        DUE.is("all of it", Made.digestOf(11, 3, Long.MAX_VALUE, Long.MIN_VALUE, -1, -1, 2, 100, -100, 0,
            3, 1, 2, 4, 8, 1, 1, 10, 9, 9, 10, 9, 0, 1, 1, 1, 9), x.digest());
        DUE.is("again", x.digest(), x.digest());
        x.wipe();
        x.point(-1, -2);
        x.point(9, 20);
        DUE.is("points as they came", Made.digestOf(11, 3, Long.MAX_VALUE, Long.MIN_VALUE, -1, -1, 2, 100, -100, 0,
            3, 1, 2, 4, 8, 1, 1, 10, 10, 9, 9, 9, 0, 1, 1, 1, 9), x.digest());
    }

    private static void promise31WhatItLeavesOut() {
        SharesOfSeries x = new SharesOfSeries();
        Made.sheet(x, 0, 0, 7);
        SharesOfSeries y = new SharesOfSeries();
        Made.sheet(y, 0, 2, 7);
        y.lose(3);
        y.series(0, 0, 0);
        y.clear();
        y.point(3, 3);
        y.wipe();
        DUE.is("lanes, causes and what is gone", x.digest(), y.digest());
    }
}
