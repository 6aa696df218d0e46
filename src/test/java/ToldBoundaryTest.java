/** Every sentence of promises 25 to 31 by itself, at its boundaries. */
public final class ToldBoundaryTest {
    private static final Due DUE = new Due("ToldBoundaryTest");

    public static void main(String[] args) {
        degree();
        term();
        value();
        cause();
        causes();
        count();
        digestOfTheEmptyAndTheFull();
        digestPartByPart();
        DUE.end();
    }

    /** An object with 1 and x^40 as its one SERIES. */
    private static SharesOfSeries widest() {
        long[] c = new long[41];
        c[0] = 1;
        c[40] = 1;
        SharesOfSeries x = new SharesOfSeries();
        Made.series(x, c);
        return x;
    }

    private static void degree() {
        DUE.about(25, "The DEGREE of p (side 0), q (side 1) of THE RESULT; -1: it is 0.");
        SharesOfSeries x = widest();
        DUE.is("p is 0", -1, x.degree(0));
        DUE.is("q is 1", 0, x.degree(1));
        x.entry(0, 40, 0);
        DUE.is("the greatest p", 40, x.degree(0));
        DUE.is("q", 0, x.degree(1));
        x.entry(0, 0, 40);
        DUE.is("p", 0, x.degree(0));
        DUE.is("the greatest q", 40, x.degree(1));
        DUE.about(25, "OUTSIDE.");
        for (int side : Made.NO_SIDES) DUE.is("side " + side, SharesOfSeries.OUTSIDE, x.degree(side));
    }

    private static void term() {
        DUE.about(26, "Its TERM of x^k; 0 also: there is none.");
        SharesOfSeries x = widest();
        DUE.is("none of 0", 0, x.term(0, 0));
        DUE.is("of 1", 1, x.term(1, 0));
        x.entry(0, 0, 40);
        DUE.is("the last below", 30010, x.term(1, 40));
        x.entry(0, 40, 0);
        DUE.is("the first above", 1, x.term(0, 0));
        DUE.is("one between", 0, x.term(0, 39));
        DUE.is("the last above", 1, x.term(0, 40));
        for (int k : new int[] {-1, 41, 42, 43, 64, Made.LOW, Made.HIGH}) {
            DUE.is("above " + k, 0, x.term(0, k));
            DUE.is("below " + k, 0, x.term(1, k));
        }
        DUE.about(26, "OUTSIDE: side.");
        for (int side : Made.NO_SIDES) DUE.is("side " + side, SharesOfSeries.OUTSIDE, x.term(side, 0));
    }

    private static void value() {
        DUE.about(27, "p by q at x; NONE: q is 0 there.");
        SharesOfSeries pole = Made.pole(3);
        for (int x : new int[] {0, 3, -3, 3000, Made.LOW + 2, Made.HIGH - 1}) DUE.is("at " + x, SharesOfSeries.NONE, pole.value(x));
        for (int x : new int[] {1, 4, -2, Made.LOW, Made.HIGH}) DUE.is("at " + x, 1, pole.value(x));
        for (int x : new int[] {2, -1, 5, Made.LOW + 1}) DUE.is("at " + x, 2, pole.value(x));
        DUE.is("no CAUSE", 0, pole.cause());
        SharesOfSeries x = widest();
        DUE.is("0 by 1", 0, x.value(Made.HIGH));
        x.entry(0, 40, 0);
        DUE.is("1 and x^40 at 0", 1, x.value(0));
        DUE.is("at -1", 2, x.value(-1));
        DUE.is("at P - 1", 2, x.value(30010));
        x.entry(0, 0, 40);
        DUE.is("1 by 1 less x^40 at 0", 1, x.value(0));
        DUE.is("at 1", SharesOfSeries.NONE, x.value(1));
        DUE.is("at -1", SharesOfSeries.NONE, x.value(-1));
        // p 0 where q is not: 0, not NONE.
        SharesOfSeries line = new SharesOfSeries();
        Made.series(line, -2, 1);
        line.entry(0, 1, 0);
        DUE.is("p is 0 there", 0, line.value(2));
        DUE.is("P - 1", 30010, line.value(1));
    }

    private static void cause() {
        DUE.about(28, "The latest CAUSE; 0 before any.");
        SharesOfSeries x = new SharesOfSeries();
        DUE.is("before any", 0, x.cause());
        x.lose(4);
        x.prime(4);
        x.join(0, 0);
        DUE.is("before any, after refusals", 0, x.cause());
        DUE.is("asked again", 0, x.cause());
        DUE.is("SIZE", Made.SIZE, x.sheet(0, 0, -1));
        DUE.is("the latest", 3, x.cause());
        DUE.is("NULL", Made.NULL, x.lose(0));
        DUE.is("the latest", 1, x.cause());
        x.sheet(0, 0, 1);
        DUE.is("CAST", Made.CAST, x.put(0, 3, 0, 0));
        DUE.is("the latest", 4, x.cause());
        DUE.is("INDEX", Made.INDEX, x.share(0, 0, 0, 0, 0));
        DUE.is("the latest", 2, x.cause());
        x.sheet(0, 0, 2);
        DUE.is("ZERO", Made.ZERO, x.share(0, 0, 0, 0, 0));
        DUE.is("the latest", 5, x.cause());
        x.lose(4);
        x.sheet(1, 0, 1);
        DUE.is("neither a refusal nor an answer ends it", 5, x.cause());
    }

    private static void causes() {
        DUE.about(29, "How often a CAUSE (1 to 5) was answered.");
        SharesOfSeries x = new SharesOfSeries();
        for (int c = 1; c <= 5; c++) DUE.is("none yet of " + c, 0, x.causes(c));
        for (int k = 1; k <= 5; k++) {
            x.sheet(0, 0, 2);
            for (int i = 0; i < k; i++) {
                if (k == 1) x.lose(1);
                if (k == 2) x.put(0, 0, 2, 1);
                if (k == 3) x.sheet(0, 0, -1);
                if (k == 4) x.put(0, 1, 0, 1);
                if (k == 5) x.share(0, 0, 0, 0, 0);
            }
        }
        for (int c = 1; c <= 5; c++) DUE.is("how often " + c, c, x.causes(c));
        DUE.is("one object's alone", 0, new SharesOfSeries().causes(5));
        SharesOfSeries many = new SharesOfSeries();
        for (int k = 0; k < 511; k++) many.sheet(0, 0, Made.LOW);
        DUE.is("511 of 512 calls", 511, many.causes(3));
        DUE.about(29, "OUTSIDE.");
        for (int c : new int[] {0, 6, -1, Made.LOW, Made.HIGH}) DUE.is("causes " + c, SharesOfSeries.OUTSIDE, x.causes(c));
    }

    private static void count() {
        DUE.about(30, "How many: 0 P, 1 SERIES, 2 POINTS, 3 SHEETS that are not LOST.");
        SharesOfSeries x = Made.modulo(2);
        long[] empty = {2, 0, 0, 0};
        for (int what = 0; what <= 3; what++) DUE.is("empty " + what, empty[what], x.count(what));
        SharesOfSeries y = Made.twentyPoints();
        for (int s = 0; s < 4; s++) y.sheet(s, 0, 0);
        for (int f = 0; f < 10; f++) y.unfold(f);
        long[] full = {30011, 10, 20, 4};
        for (int what = 0; what <= 3; what++) DUE.is("full " + what, full[what], y.count(what));
        y.unfold(0);
        y.point(99, 0);
        for (int what = 0; what <= 3; what++) DUE.is("no more " + what, full[what], y.count(what));
        y.lose(0);
        DUE.is("a SHEET is LOST", 3, y.count(3));
        DUE.about(30, "OUTSIDE.");
        for (int what : new int[] {-1, 4, Made.LOW, Made.HIGH}) DUE.is("count " + what, SharesOfSeries.OUTSIDE, x.count(what));
    }

    private static void digestOfTheEmptyAndTheFull() {
        DUE.about(31, "h is 89, then for each of these numbers, in order, 31 times h, and it (as longs, wrapping)");
        long[] none = {30011, -1, -1, -1, -1, -1, 0, 1};
        DUE.is("a new object", Made.digestOf(none), new SharesOfSeries().digest());
        SharesOfSeries ends = new SharesOfSeries();
        Made.sheet(ends, 0, 3, Long.MAX_VALUE, Long.MAX_VALUE, Long.MIN_VALUE, Long.MIN_VALUE, -1);
        // By whole numbers of any size, cut to 64 bits at the end alone.
        java.math.BigInteger h = java.math.BigInteger.valueOf(89);
        for (long v : new long[] {30011, 5, Long.MAX_VALUE, Long.MAX_VALUE, Long.MIN_VALUE, Long.MIN_VALUE, -1, -1, -1, -1, -1, 0, 1}) {
            h = h.multiply(java.math.BigInteger.valueOf(31)).add(java.math.BigInteger.valueOf(v));
        }
        DUE.is("longs at their ends", h.longValue(), ends.digest());
        SharesOfSeries full = Made.twentyPoints();
        for (int s = 0; s < 4; s++) full.sheet(s, s, 60);
        for (int i = 0; i < 60; i++) full.put(3, 3, i, Long.MIN_VALUE + i);
        full.join(19, 0);
        for (int f = 0; f < 10; f++) full.unfold(40);
        DUE.is("a full object", digestOfFull(), full.digest());
        DUE.is("asked again", digestOfFull(), full.digest());
    }

    // Four SHEETS of sixty, ten times x^2 of LENGTH 40, twenty POINTS, THE RESULT x^2 by 1.
    private static long digestOfFull() {
        java.util.List<Long> told = new java.util.ArrayList<>();
        told.add(30011L);
        for (int s = 0; s < 4; s++) {
            told.add(60L);
            for (int i = 0; i < 60; i++) told.add(s == 3 ? Long.MIN_VALUE + i : 0L);
        }
        for (int f = 0; f < 10; f++) {
            told.add(40L);
            for (int k = 0; k <= 40; k++) told.add(k == 2 ? 1L : 0L);
        }
        for (long i = 0; i < 20; i++) {
            told.add(i);
            told.add(i * i);
        }
        for (long v : new long[] {2, 0, 0, 0, 1, 1}) told.add(v);
        long h = 89;
        for (long v : told) h = 31 * h + v;
        return h;
    }

    private static void digestPartByPart() {
        DUE.about(31, "P; of each SHEET -1 (LOST), or how many numbers, and these");
        SharesOfSeries x = Made.modulo(5);
        for (int s = 0; s < 4; s++) x.sheet(s, 3, 0);
        DUE.is("four empty rows", Made.digestOf(5, 0, 0, 0, 0, -1, 0, 1), x.digest());
        Made.sheet(x, 1, 0, -1, 7);
        x.lose(3);
        DUE.is("as they are, no RESIDUES", Made.digestOf(5, 0, 2, -1, 7, 0, -1, -1, 0, 1), x.digest());
        DUE.about(31, "of each SERIES its LENGTH, NUMBERS");
        x.series(1, 0, 1);
        x.series(1, 1, 0);
        DUE.is("two SERIES", Made.digestOf(5, 0, 2, -1, 7, 0, -1, 1, 4, 2, 0, 2, -1, 0, 1), x.digest());
        DUE.about(31, "of each POINT, as they came, x, y");
        x.point(-1, 7);
        x.point(0, 0);
        DUE.is("two POINTS", Made.digestOf(5, 0, 2, -1, 7, 0, -1, 1, 4, 2, 0, 2, 4, 2, 0, 0, -1, 0, 1), x.digest());
        DUE.about(31, "of THE RESULT both DEGREES, TERMS of p, of q.");
        x.join(0, 1);
        DUE.is("there is none", Made.digestOf(5, 0, 2, -1, 7, 0, -1, 1, 4, 2, 0, 2, 4, 2, 0, 0, -1, 0, 1), x.digest());
        x.entry(0, 0, 1);
        DUE.is("4 by 1 and 2x", Made.digestOf(5, 0, 2, -1, 7, 0, -1, 1, 4, 2, 0, 2, 4, 2, 0, 0, 0, 1, 4, 1, 2), x.digest());
        x.entry(0, 1, 0);
        DUE.is("4 and 2x by 1", Made.digestOf(5, 0, 2, -1, 7, 0, -1, 1, 4, 2, 0, 2, 4, 2, 0, 0, 1, 0, 4, 2, 1), x.digest());
        x.clear();
        x.wipe();
        DUE.is("what is gone is not told", Made.digestOf(5, 0, 2, -1, 7, 0, -1, 1, 0, 4, 2, 1), x.digest());
    }
}
