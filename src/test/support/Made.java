/** Objects with sheets and series ready to be asked. */
final class Made {
    static final int INDEX = -12, NULL = -11, SIZE = -13, CAST = -14, ZERO = -15;
    static final int LOW = Integer.MIN_VALUE, HIGH = Integer.MAX_VALUE;
    static final int[] NO_SHEETS = {-1, 4, LOW, HIGH}, NO_LANES = {-1, 4, LOW, HIGH}, NO_LENGTHS = {-1, 41, LOW, HIGH};
    static final int[] NO_SIDES = {-1, 2, LOW, HIGH};

    private Made() {
    }

    /** A sheet of a lane with these numbers. */
    static void sheet(SharesOfSeries x, int s, int lane, long... numbers) {
        x.sheet(s, lane, numbers.length);
        for (int i = 0; i < numbers.length; i++) x.put(s, lane, i, numbers[i]);
    }

    /** A series of these numbers, by way of sheet 3, which is lost again. */
    static int series(SharesOfSeries x, long... numbers) {
        sheet(x, 3, 3, numbers);
        int f = x.series(3, 0, numbers.length - 1);
        x.lose(3);
        return f;
    }

    static SharesOfSeries modulo(int p) {
        SharesOfSeries x = new SharesOfSeries();
        x.prime(p);
        return x;
    }

    /** An object with ten series: 1 1 1, then 0 1 0 nine times. */
    static SharesOfSeries full() {
        SharesOfSeries x = new SharesOfSeries();
        sheet(x, 0, 2, 1, 1, 1, 0, 1, 0);
        x.series(0, 0, 2);
        for (int k = 0; k < 9; k++) x.series(0, 3, 2);
        return x;
    }

    /** An object modulo P whose result is 1 by x, with two points. */
    static SharesOfSeries pole(int p) {
        SharesOfSeries x = modulo(p);
        x.point(1, 1);
        x.point(-1, -1);
        x.join(0, 1);
        return x;
    }

    /** An object with twenty points i, i * i. */
    static SharesOfSeries twentyPoints() {
        SharesOfSeries x = new SharesOfSeries();
        for (int i = 0; i < 20; i++) x.point(i, i * i);
        return x;
    }

    /** 0 n times, and these behind. */
    static long[] behindZeros(int n, long... numbers) {
        long[] all = new long[n + numbers.length];
        System.arraycopy(numbers, 0, all, n, numbers.length);
        return all;
    }

    static void zeroResult(Due due, String what, SharesOfSeries x) {
        terms(due, what, x, 0);
        terms(due, what, x, 1, 1);
    }

    static void numbers(Due due, String what, SharesOfSeries x, int f, long... want) {
        due.is(what + " length", want.length - 1, x.length(f));
        for (int k = 0; k < want.length; k++) due.is(what + " number " + k, want[k], x.number(f, k));
        due.is(what + " number behind", SharesOfSeries.NONE, x.number(f, want.length));
    }

    static void terms(Due due, String what, SharesOfSeries x, int side, long... want) {
        due.is(what + " degree of side " + side, want.length - 1, x.degree(side));
        for (int k = 0; k < want.length; k++) due.is(what + " term " + side + ", " + k, want[k], x.term(side, k));
        due.is(what + " term behind", 0, x.term(side, want.length));
    }

    static long digestOf(long... told) {
        long h = 89;
        for (long v : told) h = 31 * h + v;
        return h;
    }
}
