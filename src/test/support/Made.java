/** Objects with sheets and series ready to be asked. */
final class Made {
    static final int INDEX = -12, NULL = -11, SIZE = -13, CAST = -14, ZERO = -15;
    static final int LOW = Integer.MIN_VALUE, HIGH = Integer.MAX_VALUE;

    private Made() {
    }

    /** A sheet of a lane with these numbers. */
    static void sheet(SharesOfSeries x, int s, int lane, long... numbers) {
        x.sheet(s, lane, numbers.length);
        for (int i = 0; i < numbers.length; i++) x.put(s, lane, i, numbers[i]);
    }

    /** A series of these numbers, by way of sheet 3, which is lost again. */
    static int series(SharesOfSeries x, long... numbers) {
        sheet(x, 3, 3, numbers);
        int f = x.series(3, 0, numbers.length - 1);
        x.lose(3);
        return f;
    }

    static SharesOfSeries modulo(int p) {
        SharesOfSeries x = new SharesOfSeries();
        x.prime(p);
        return x;
    }

    /** An object with ten series: 1 1 1, then 0 1 0 nine times. */
    static SharesOfSeries full() {
        SharesOfSeries x = new SharesOfSeries();
        sheet(x, 0, 2, 1, 1, 1, 0, 1, 0);
        x.series(0, 0, 2);
        for (int k = 0; k < 9; k++) x.series(0, 3, 2);
        return x;
    }

    static void numbers(Due due, String what, SharesOfSeries x, int f, long... want) {
        due.is(what + " length", want.length - 1, x.length(f));
        for (int k = 0; k < want.length; k++) due.is(what + " number " + k, want[k], x.number(f, k));
        due.is(what + " number behind", SharesOfSeries.NONE, x.number(f, want.length));
    }

    static void terms(Due due, String what, SharesOfSeries x, int side, long... want) {
        due.is(what + " degree of side " + side, want.length - 1, x.degree(side));
        for (int k = 0; k < want.length; k++) due.is(what + " term " + side + ", " + k, want[k], x.term(side, k));
        due.is(what + " term behind", 0, x.term(side, want.length));
    }

    static long digestOf(long... told) {
        long h = 89;
        for (long v : told) h = 31 * h + v;
        return h;
    }
}
