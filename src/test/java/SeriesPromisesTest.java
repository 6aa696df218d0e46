/** Promises 7 to 16: series. */
public final class SeriesPromisesTest {
    private static final Due DUE = new Due("SeriesPromisesTest");
    private static final int[] NO_SERIES = {-1, 2, 10, Made.LOW, Made.HIGH};

    public static void main(String[] args) {
        promise7Series();
        promise7Refusals();
        promise8Share();
        promise8Refusals();
        promise9Unfold();
        promise10Plus();
        promise11Times();
        promise12Under();
        promise13Moved();
        promise14And15NumberAndLength();
        promise16Clear();
        fullObjects();
        DUE.end();
    }

    private static void promise7Series() {
        SharesOfSeries x = new SharesOfSeries();
        Made.sheet(x, 0, 3, 5, -1, 30011, 30012, Long.MAX_VALUE, Long.MIN_VALUE, -30011);
        DUE.is("all", 0, x.series(0, 0, 6));
        Made.numbers(DUE, "all", x, 0, 5, 30010, 0, 1, Math.floorMod(Long.MAX_VALUE, 30011L),
            Math.floorMod(Long.MIN_VALUE, 30011L), 0);
        DUE.is("one", 1, x.series(0, 6, 0));
        Made.numbers(DUE, "one", x, 1, 0);
        DUE.is("some", 2, x.series(0, 1, 2));
        Made.numbers(DUE, "some", x, 2, 30010, 0, 1);
        x.put(0, 3, 1, 77);
        DUE.is("a series stays as it was", 30010, x.number(2, 0));
        x.sheet(1, 0, 60);
        x.put(1, 0, 59, -3);
        DUE.is("the longest", 3, x.series(1, 19, 40));
        DUE.is("its length", 40, x.length(3));
        DUE.is("its last", 30008, x.number(3, 40));
        DUE.is("its last but one", 0, x.number(3, 39));
    }

    private static void promise7Refusals() {
        SharesOfSeries x = new SharesOfSeries();
        for (int s : new int[] {-1, 4, Made.LOW, Made.HIGH}) {
            DUE.is("sheet " + s, SharesOfSeries.UNKNOWN, x.series(s, -1, 41));
        }
        for (int n : Made.NO_LENGTHS) DUE.is("length " + n, SharesOfSeries.OUTSIDE, x.series(0, -1, n));
        DUE.is("no cause", 0, x.cause());
        DUE.is("lost", Made.NULL, x.series(0, -1, 0));
        Made.sheet(x, 0, 1, 1, 2, 3);
        int[][] wrong = {{-1, 0}, {3, 0}, {0, 3}, {2, 1}, {1, 2}, {-1, 2}, {Made.HIGH, 0}, {Made.HIGH, 40},
            {Made.LOW, 0}, {Made.LOW, 40}, {0, 40}};
        for (int[] w : wrong) DUE.is("series 0 " + w[0] + " " + w[1], Made.INDEX, x.series(0, w[0], w[1]));
        DUE.is("no series", 0, x.count(1));
        DUE.is("causes 1", 1, x.causes(1));
        DUE.is("causes 2", wrong.length, x.causes(2));
        x.sheet(1, 2, 0);
        DUE.is("an empty row", Made.INDEX, x.series(1, 0, 0));
    }

    private static void promise8Share() {
        SharesOfSeries x = new SharesOfSeries();
        Made.sheet(x, 0, 2, 9, 1, 1, -1, -1, 2, -2, 0, 4);
        DUE.is("Fibonacci", 0, x.share(0, 1, 0, 2, 8));
        Made.numbers(DUE, "Fibonacci", x, 0, 1, 1, 2, 3, 5, 8, 13, 21, 34);
        DUE.is("(1 - x) by (-1 + 2x - 2x^2)", 1, x.share(0, 2, 1, 2, 4));
        Made.numbers(DUE, "(1 - x) by (-1 + 2x - 2x^2)", x, 1, 30010, 30010, 0, 2, 4);
        DUE.is("a number by a number", 2, x.share(0, 4, 0, 0, 2));
        Made.numbers(DUE, "-1 by 2", x, 2, 15005, 0, 0);
        // 9 + x .. by 2 - 2x ..: the numbers are 9/2 and (1 + 9) / 2.
        DUE.is("shorter than p", 3, x.share(0, 0, 4, 3, 1));
        Made.numbers(DUE, "shorter than p", x, 3, 15010, 5);
        x.sheet(1, 1, 60);
        x.put(1, 1, 19, 1);
        x.put(1, 1, 0, 3);
        DUE.is("greatest degrees", 4, x.share(1, 0, 18, 40, 40));
        DUE.is("its first", 3, x.number(4, 0));
        DUE.is("its last", 0, x.number(4, 40));
    }

    private static void promise8Refusals() {
        SharesOfSeries x = new SharesOfSeries();
        for (int s : new int[] {-1, 4, Made.LOW, Made.HIGH}) {
            DUE.is("sheet " + s, SharesOfSeries.UNKNOWN, x.share(s, -1, 41, 41, 41));
        }
        for (int n : Made.NO_LENGTHS) {
            DUE.is("l " + n, SharesOfSeries.OUTSIDE, x.share(0, -1, n, 0, 0));
            DUE.is("m " + n, SharesOfSeries.OUTSIDE, x.share(0, -1, 0, n, 0));
            DUE.is("n " + n, SharesOfSeries.OUTSIDE, x.share(0, -1, 0, 0, n));
        }
        DUE.is("lost", Made.NULL, x.share(0, -1, 0, 0, 0));
        Made.sheet(x, 0, 3, 1, 2, 0, 30011, 5);
        int[][] wrong = {{-1, 0, 0}, {4, 0, 0}, {3, 1, 0}, {3, 0, 1}, {0, 2, 2}, {Made.HIGH, 40, 40}, {Made.LOW, 0, 0},
            {-1, 1, 1}, {0, 40, 40}};
        for (int[] w : wrong) {
            DUE.is("share 0 " + w[0] + " " + w[1] + " " + w[2], Made.INDEX, x.share(0, w[0], w[1], w[2], 3));
        }
        DUE.is("q is 0 at 0", Made.ZERO, x.share(0, 0, 1, 2, 3));
        DUE.is("q is P at 0", Made.ZERO, x.share(0, 1, 1, 1, 3));
        DUE.is("no series", 0, x.count(1));
        DUE.is("cause", 5, x.cause());
        DUE.is("causes 2", wrong.length, x.causes(2));
        DUE.is("causes 5", 2, x.causes(5));
        DUE.is("the last places", 0, x.share(0, 3, 0, 0, 40));
        Made.sheet(x, 1, 0, 1, 7);
        SharesOfSeries y = Made.modulo(7);
        Made.sheet(y, 1, 0, 1, 7);
        DUE.is("7 is 7", 1, x.share(1, 0, 0, 0, 0));
        DUE.is("7 is 0 modulo 7", Made.ZERO, y.share(1, 0, 0, 0, 0));
    }

    private static void promise9Unfold() {
        SharesOfSeries x = new SharesOfSeries();
        DUE.is("0 by 1", 0, x.unfold(2));
        Made.numbers(DUE, "0 by 1", x, 0, 0, 0, 0);
        int f = Made.series(x, 1, 3, 9, 27);
        x.entry(f, 0, 1);
        DUE.is("1 by (1 - 3x)", 2, x.unfold(6));
        Made.numbers(DUE, "1 by (1 - 3x)", x, 2, 1, 3, 9, 27, 81, 243, 729);
        DUE.is("the shortest", 3, x.unfold(0));
        DUE.is("the longest", 4, x.unfold(40));
        DUE.is("its length", 40, x.length(4));
        for (int n : Made.NO_LENGTHS) DUE.is("length " + n, SharesOfSeries.OUTSIDE, x.unfold(n));
        SharesOfSeries y = Made.modulo(7);
        y.point(1, 1);
        y.point(2, 4);
        DUE.is("1 by x", 1, y.join(0, 1));
        DUE.is("q is 0 at 0", Made.ZERO, y.unfold(3));
        DUE.is("outside ahead of zero", SharesOfSeries.OUTSIDE, y.unfold(41));
        DUE.is("no series", 0, y.count(1));
        DUE.is("causes", 1, y.causes(5));
    }

    private static void promise10Plus() {
        SharesOfSeries x = new SharesOfSeries();
        int f = Made.series(x, 1, 2, 3, 4);
        int g = Made.series(x, 10, 20, 30);
        DUE.is("f and 2 g", 2, x.plus(f, g, 2));
        Made.numbers(DUE, "f and 2 g", x, 2, 21, 42, 63);
        DUE.is("g less f", 3, x.plus(g, f, -1));
        Made.numbers(DUE, "g less f", x, 3, 9, 18, 27);
        x.plus(f, g, Made.LOW);
        Made.numbers(DUE, "f and LOW g", x, 4, Math.floorMod(1 + 10L * Made.LOW, 30011L),
            Math.floorMod(2 + 20L * Made.LOW, 30011L), Math.floorMod(3 + 30L * Made.LOW, 30011L));
        x.plus(f, f, 30010);
        Made.numbers(DUE, "f less f", x, 5, 0, 0, 0, 0);
        x.plus(f, g, 0);
        Made.numbers(DUE, "f shorter", x, 6, 1, 2, 3);
        SharesOfSeries y = new SharesOfSeries();
        Made.series(y, 1, 2);
        Made.series(y, 1);
        for (int no : NO_SERIES) {
            DUE.is("plus " + no, SharesOfSeries.UNKNOWN, y.plus(no, 0, 1));
            DUE.is("plus 0 " + no, SharesOfSeries.UNKNOWN, y.plus(0, no, 1));
        }
        DUE.is("no series more", 2, y.count(1));
    }

    private static void promise11Times() {
        SharesOfSeries x = new SharesOfSeries();
        int f = Made.series(x, 1, 2, 3, 4);
        int g = Made.series(x, 5, 0, -1);
        DUE.is("f g", 2, x.times(f, g));
        Made.numbers(DUE, "f g", x, 2, 5, 10, 14);
        DUE.is("f f", 3, x.times(f, f));
        Made.numbers(DUE, "f f", x, 3, 1, 4, 10, 20);
        int high = Made.series(x, -1, -1, -1, -1);
        x.times(high, high);
        Made.numbers(DUE, "(-1 - x ..)^2", x, 5, 1, 2, 3, 4);
        SharesOfSeries y = new SharesOfSeries();
        Made.series(y, 1, 2);
        Made.series(y, 1);
        for (int no : NO_SERIES) {
            DUE.is("times " + no, SharesOfSeries.UNKNOWN, y.times(no, 0));
            DUE.is("times 0 " + no, SharesOfSeries.UNKNOWN, y.times(0, no));
        }
        DUE.is("no series more", 2, y.count(1));
    }

    private static void promise12Under() {
        SharesOfSeries x = new SharesOfSeries();
        int f = Made.series(x, 1, -1, -1, 0, 0, 0);
        DUE.is("1 by (1 - x - x^2)", 1, x.under(f));
        Made.numbers(DUE, "1 by (1 - x - x^2)", x, 1, 1, 1, 2, 3, 5, 8);
        int two = Made.series(x, 2);
        x.under(two);
        Made.numbers(DUE, "1 by 2", x, 3, 15006);
        int zero = Made.series(x, 30011, 1);
        DUE.is("c(0) is 0", Made.ZERO, x.under(zero));
        for (int no : new int[] {-1, 5, Made.LOW, Made.HIGH}) {
            DUE.is("under " + no, SharesOfSeries.UNKNOWN, x.under(no));
        }
        DUE.is("no series more", 5, x.count(1));
        DUE.is("causes", 1, x.causes(5));
        DUE.is("cause", 5, x.cause());
    }

    private static void promise13Moved() {
        SharesOfSeries x = new SharesOfSeries();
        int f = Made.series(x, 3, 5, 7, 9);
        DUE.is("f of 2x", 1, x.moved(f, 2, 0));
        Made.numbers(DUE, "f of 2x", x, 1, 3, 10, 28, 72);
        x.moved(f, 2, 1);
        Made.numbers(DUE, "x f of 2x", x, 2, 0, 3, 10, 28);
        x.moved(f, 0, 0);
        Made.numbers(DUE, "f of 0", x, 3, 3, 0, 0, 0);
        x.moved(f, -1, 3);
        Made.numbers(DUE, "x^3 f of -x", x, 4, 0, 0, 0, 3);
        x.moved(f, -1, 4);
        Made.numbers(DUE, "x^4 f of -x", x, 5, 0, 0, 0, 0);
        x.moved(f, -1, 40);
        Made.numbers(DUE, "x^40 f of -x", x, 6, 0, 0, 0, 0);
        x.moved(f, Made.LOW, 0);
        long a = Math.floorMod((long) Made.LOW, 30011L);
        Made.numbers(DUE, "f of LOW x", x, 7, 3, 5 * a % 30011, 7 * a * a % 30011, a * a % 30011 * a % 30011 * 9 % 30011);
        SharesOfSeries again = new SharesOfSeries();
        Made.series(again, 1, 1, 1);
        Made.series(again, 8, 8, 8);
        again.clear();
        Made.series(again, 1, 1, 1);
        again.moved(0, 1, 2);
        Made.numbers(DUE, "where another series was", again, 1, 0, 0, 1);
        for (int k : Made.NO_LENGTHS) DUE.is("k " + k, SharesOfSeries.OUTSIDE, x.moved(f, 1, k));
        for (int no : new int[] {-1, 8, Made.LOW, Made.HIGH}) {
            DUE.is("moved " + no, SharesOfSeries.UNKNOWN, x.moved(no, 1, 41));
        }
        DUE.is("no series more", 8, x.count(1));
    }

    private static void promise14And15NumberAndLength() {
        SharesOfSeries x = new SharesOfSeries();
        DUE.is("none yet", SharesOfSeries.UNKNOWN, x.number(0, 0));
        DUE.is("none yet", SharesOfSeries.UNKNOWN, x.length(0));
        Made.series(x, -2, 4);
        Made.series(x, 6);
        DUE.is("first", 30009, x.number(0, 0));
        DUE.is("last", 4, x.number(0, 1));
        for (int k : new int[] {-1, 2, 40, Made.LOW, Made.HIGH}) {
            DUE.is("number 0 " + k, SharesOfSeries.NONE, x.number(0, k));
        }
        DUE.is("length 0", 1, x.length(0));
        DUE.is("length 1", 0, x.length(1));
        for (int no : NO_SERIES) {
            DUE.is("number " + no, SharesOfSeries.UNKNOWN, x.number(no, -1));
            DUE.is("length " + no, SharesOfSeries.UNKNOWN, x.length(no));
        }
        DUE.is("no cause", 0, x.cause());
    }

    private static void promise16Clear() {
        SharesOfSeries x = new SharesOfSeries();
        DUE.is("none", 0, x.clear());
        int f = Made.series(x, 1, 2, 4);
        Made.series(x, 1, 2, 4);
        x.entry(f, 0, 1);
        x.point(1, 1);
        DUE.is("two", 2, x.clear());
        DUE.is("gone", SharesOfSeries.UNKNOWN, x.number(0, 0));
        DUE.is("series", 0, x.count(1));
        DUE.is("points stay", 1, x.count(2));
        Made.terms(DUE, "result stays", x, 1, 1, 30009);
        DUE.is("numbered anew", 0, Made.series(x, 7));
        Made.numbers(DUE, "nothing of the old one", x, 0, 7);
        DUE.is("ten", 10, Made.full().clear());
    }

    // FULL is told last by every call, so whatever it tells ahead of that comes ahead.
    private static void fullObjects() {
        SharesOfSeries x = Made.full();
        long before = x.digest();
        DUE.is("series", SharesOfSeries.FULL, x.series(0, 0, 2));
        DUE.is("share", SharesOfSeries.FULL, x.share(0, 0, 1, 0, 2));
        DUE.is("unfold", SharesOfSeries.FULL, x.unfold(2));
        DUE.is("plus", SharesOfSeries.FULL, x.plus(0, 9, 1));
        DUE.is("times", SharesOfSeries.FULL, x.times(9, 9));
        DUE.is("under", SharesOfSeries.FULL, x.under(0));
        DUE.is("moved", SharesOfSeries.FULL, x.moved(9, 1, 1));
        DUE.is("no cause", 0, x.cause());
        DUE.is("series of no sheet", SharesOfSeries.UNKNOWN, x.series(4, 0, 0));
        DUE.is("series too long", SharesOfSeries.OUTSIDE, x.series(0, 0, 41));
        DUE.is("series of a lost one", Made.NULL, x.series(1, 0, 0));
        DUE.is("series of no place", Made.INDEX, x.series(0, 6, 0));
        DUE.is("share of a lost one", Made.NULL, x.share(1, 0, 0, 0, 0));
        DUE.is("share of no place", Made.INDEX, x.share(0, 5, 0, 0, 0));
        DUE.is("share by 0", Made.ZERO, x.share(0, 2, 0, 1, 0));
        DUE.is("under 0", Made.ZERO, x.under(1));
        DUE.is("plus", SharesOfSeries.UNKNOWN, x.plus(0, 10, 1));
        DUE.is("times", SharesOfSeries.UNKNOWN, x.times(10, 0));
        DUE.is("moved", SharesOfSeries.OUTSIDE, x.moved(0, 1, 41));
        DUE.is("unfold", SharesOfSeries.OUTSIDE, x.unfold(-1));
        DUE.is("nothing changed", before, x.digest());
        x.point(1, 1);
        x.point(2, 15006);
        DUE.is("1 by x", 1, x.join(0, 1));
        DUE.is("unfold of 1 by x", Made.ZERO, x.unfold(3));
        DUE.is("ten", 10, x.count(1));
    }
}
