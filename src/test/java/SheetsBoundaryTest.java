/** Every sentence of promises 1 to 6 by itself, at its boundaries. */
public final class SheetsBoundaryTest {
    private static final Due DUE = new Due("SheetsBoundaryTest");
    private static final int[] NO_PLACES = {-1, 3, 4, 59, 60, Made.LOW, Made.HIGH};

    public static void main(String[] args) {
        newObject();
        prime();
        primeRefused();
        sheet();
        sheetRefused();
        put();
        putRefused();
        copy();
        copyOfNone();
        copyRefused();
        lose();
        DUE.end();
    }

    private static void newObject() {
        DUE.about(1, "P is 30011");
        DUE.is("count", 30011, new SharesOfSeries().count(0));
        DUE.is("what P was", 30011, new SharesOfSeries().prime(2));
        DUE.about(1, "no SERIES, POINTS");
        SharesOfSeries x = new SharesOfSeries();
        DUE.is("clear", 0, x.clear());
        DUE.is("wipe", 0, x.wipe());
        DUE.is("SERIES 0", SharesOfSeries.UNKNOWN, x.length(0));
        DUE.is("join", SharesOfSeries.STATE, x.join(0, 0));
        DUE.about(1, "SHEETS are LOST.");
        for (int s = 0; s < 4; s++) DUE.is("lose " + s, Made.NULL, x.lose(s));
        DUE.is("SHEETS", 0, x.count(3));
    }

    private static void prime() {
        DUE.about(2, "P becomes p, THE RESULT 0 by 1: what P was.");
        SharesOfSeries x = new SharesOfSeries();
        Made.series(x, 4, 5);
        x.entry(0, 1, 0);
        x.clear();
        Made.sheet(x, 0, 2, 9);
        DUE.is("the least", 30011, x.prime(2));
        DUE.is("P", 2, x.count(0));
        Made.zeroResult(DUE, "by the least", x);
        DUE.is("SHEETS stay", Made.digestOf(2, 1, 9, -1, -1, -1, -1, 0, 1), x.digest());
        DUE.is("the greatest", 2, x.prime(30011));
        DUE.is("P", 30011, x.count(0));
        Made.series(x, 4, 5);
        x.entry(0, 1, 0);
        x.clear();
        DUE.is("the same one", 30011, x.prime(30011));
        Made.zeroResult(DUE, "by the same one", x);
    }

    private static void primeRefused() {
        DUE.about(2, "OUTSIDE: it is not a prime from 2 to 30011");
        boolean[] divided = new boolean[30015];
        SharesOfSeries x = new SharesOfSeries();
        for (int p = 0; p < divided.length; p++) {
            boolean isPrime = p >= 2 && !divided[p];
            for (int k = 2 * p; isPrime && k < divided.length; k += p) divided[k] = true;
            if (p % 500 == 0) x = new SharesOfSeries();
            DUE.is("prime " + p, isPrime && p <= 30011 ? 1 : SharesOfSeries.OUTSIDE, Math.min(1, x.prime(p)));
        }
        SharesOfSeries y = new SharesOfSeries();
        // Primes beyond, among them the greatest int; primes below 0; the square of a prime below 2^31.
        for (int p : new int[] {30013, 30029, 65537, Made.HIGH, -2, -3, -30011, Made.LOW, 46337 * 46337}) {
            DUE.is("prime " + p, SharesOfSeries.OUTSIDE, y.prime(p));
        }
        DUE.is("P stays", 30011, y.count(0));
        DUE.about(2, "STATE: there are SERIES or POINTS.");
        Made.series(y, 1);
        DUE.is("a SERIES", SharesOfSeries.STATE, y.prime(3));
        DUE.is("the same P", SharesOfSeries.STATE, y.prime(30011));
        y.point(0, 0);
        DUE.is("both", SharesOfSeries.STATE, y.prime(3));
        y.clear();
        DUE.is("a POINT", SharesOfSeries.STATE, y.prime(3));
        y.wipe();
        DUE.is("none", 30011, y.prime(3));
    }

    private static void sheet() {
        DUE.about(3, "A SHEET becomes a new row of a LANE with n numbers, 0 at first: n.");
        for (int s = 0; s < 4; s++) {
            for (int lane = 0; lane < 4; lane++) {
                SharesOfSeries x = new SharesOfSeries();
                for (int n : new int[] {0, 1, 59, 60}) {
                    DUE.is("SHEET " + s + " of " + n, n, x.sheet(s, lane, n));
                    if (n > 0) DUE.is("the last place", 1, x.put(s, lane, n - 1, 7));
                    DUE.is("the one behind", Made.INDEX, x.put(s, lane, n, 7));
                    DUE.is("again", n, x.sheet(s, lane, n));
                    DUE.is("0 at first", rowOfZeros(s, n), x.digest());
                }
            }
        }
        SharesOfSeries x = new SharesOfSeries();
        Made.sheet(x, 0, 0, 5, 5, 5);
        DUE.is("shorter, of another LANE", 1, x.sheet(0, 3, 1));
        DUE.is("the LANE", 1, x.put(0, 3, 0, Long.MIN_VALUE));
        DUE.is("the LANE that was", Made.CAST, x.put(0, 0, 0, 1));
        DUE.is("longer", 3, x.sheet(0, 0, 3));
        DUE.is("nothing of what was", rowOfZeros(0, 3), x.digest());
    }

    private static long rowOfZeros(int s, int n) {
        long h = Made.digestOf(30011);
        for (int k = 0; k < 4; k++) {
            h = 31 * h + (k == s ? n : -1);
            for (int i = 0; k == s && i < n; i++) h = 31 * h;
        }
        for (long v : new long[] {-1, 0, 1}) h = 31 * h + v;
        return h;
    }

    private static void sheetRefused() {
        SharesOfSeries x = new SharesOfSeries();
        DUE.about(3, "UNKNOWN");
        for (int s : Made.NO_SHEETS) DUE.is("SHEET " + s, SharesOfSeries.UNKNOWN, x.sheet(s, 0, 0));
        DUE.about(3, "OUTSIDE: LANE, n is above 60");
        for (int lane : Made.NO_LANES) DUE.is("LANE " + lane, SharesOfSeries.OUTSIDE, x.sheet(0, lane, 0));
        for (int n : new int[] {61, 62, Made.HIGH}) DUE.is("n " + n, SharesOfSeries.OUTSIDE, x.sheet(0, 0, n));
        DUE.is("no CAUSE", 0, x.cause());
        DUE.about(3, "SIZE");
        DUE.is("n -1", Made.SIZE, x.sheet(0, 0, -1));
        DUE.is("n LOW", Made.SIZE, x.sheet(3, 3, Made.LOW));
        DUE.is("SHEETS", 0, x.count(3));
    }

    private static void put() {
        DUE.about(4, "Number i of a SHEET becomes v, cast to its LANE: 1.");
        long[][] bytes = {{127, 127}, {128, -128}, {-128, -128}, {-129, 127}, {255, -1}, {256, 0}, {-256, 0}};
        long[][] shorts = {{32767, 32767}, {32768, -32768}, {-32768, -32768}, {-32769, 32767}, {65535, -1}, {65536, 0}};
        long[][] ints = {{2147483647L, 2147483647L}, {2147483648L, -2147483648L}, {-2147483648L, -2147483648L},
            {-2147483649L, 2147483647L}, {4294967295L, -1}, {4294967296L, 0}};
        long[][] longs = {{Long.MAX_VALUE, Long.MAX_VALUE}, {Long.MIN_VALUE, Long.MIN_VALUE}, {4294967296L, 4294967296L}};
        long[][][] lanes = {bytes, shorts, ints, longs};
        for (int lane = 0; lane < 4; lane++) {
            for (long[] pair : lanes[lane]) castIs(lane, pair[0], pair[1]);
            castIs(lane, Long.MAX_VALUE, lane == 3 ? Long.MAX_VALUE : -1);
            castIs(lane, Long.MIN_VALUE, lane == 3 ? Long.MIN_VALUE : 0);
        }
        SharesOfSeries x = new SharesOfSeries();
        x.sheet(0, 1, 60);
        DUE.is("place 0", 1, x.put(0, 1, 0, 5));
        DUE.is("place 59", 1, x.put(0, 1, 59, 6));
        x.series(0, 0, 0);
        x.series(0, 59, 0);
        DUE.is("number 0", 5, x.number(0, 0));
        DUE.is("number 59", 6, x.number(1, 0));
    }

    private static void castIs(int lane, long told, long cast) {
        SharesOfSeries x = new SharesOfSeries();
        x.sheet(2, lane, 2);
        DUE.is("put " + told, 1, x.put(2, lane, 1, told));
        DUE.is(told + " in LANE " + lane, Made.digestOf(30011, -1, -1, 2, 0, cast, -1, -1, 0, 1), x.digest());
    }

    private static void putRefused() {
        SharesOfSeries x = new SharesOfSeries();
        Made.sheet(x, 0, 2, 7, 8, 9);
        x.sheet(1, 0, 0);
        DUE.about(4, "UNKNOWN");
        for (int s : Made.NO_SHEETS) DUE.is("SHEET " + s, SharesOfSeries.UNKNOWN, x.put(s, 2, 0, 1));
        DUE.about(4, "OUTSIDE: LANE");
        for (int lane : Made.NO_LANES) DUE.is("LANE " + lane, SharesOfSeries.OUTSIDE, x.put(0, lane, 0, 1));
        DUE.is("no CAUSE", 0, x.cause());
        DUE.about(4, "NULL");
        for (int lane = 0; lane < 4; lane++) DUE.is("LOST, LANE " + lane, Made.NULL, x.put(3, lane, 0, 1));
        DUE.about(4, "CAST");
        for (int lane : new int[] {0, 1, 3}) DUE.is("LANE " + lane, Made.CAST, x.put(0, lane, 0, 1));
        for (int lane : new int[] {1, 2, 3}) DUE.is("an empty row, LANE " + lane, Made.CAST, x.put(1, lane, 0, 1));
        DUE.about(4, "INDEX");
        for (int i : NO_PLACES) DUE.is("place " + i, Made.INDEX, x.put(0, 2, i, 1));
        DUE.is("an empty row", Made.INDEX, x.put(1, 0, 0, 1));
        DUE.is("numbers stay", Made.digestOf(30011, 3, 7, 8, 9, 0, -1, -1, -1, 0, 1), x.digest());
    }

    private static void copy() {
        DUE.about(5, "n numbers of a SHEET from i on come to another one (or the same) from j on, as if all were taken ahead: 1.");
        long[] all = new long[60];
        for (int i = 0; i < 60; i++) all[i] = i + 1;
        SharesOfSeries x = new SharesOfSeries();
        Made.sheet(x, 0, 0, all);
        x.sheet(3, 0, 60);
        DUE.is("sixty to another", 1, x.copy(0, 0, 3, 0, 60));
        sheetIs("sixty to another", x, 3, all);
        DUE.is("one place up in the same", 1, x.copy(0, 0, 0, 1, 59));
        long[] up = all.clone();
        for (int i = 1; i < 60; i++) up[i] = all[i - 1];
        sheetIs("one place up", x, 0, up);
        DUE.is("one place down in the same", 1, x.copy(3, 1, 3, 0, 59));
        long[] down = all.clone();
        for (int i = 0; i < 59; i++) down[i] = all[i + 1];
        sheetIs("one place down", x, 3, down);
        DUE.is("onto itself", 1, x.copy(3, 0, 3, 0, 60));
        sheetIs("onto itself", x, 3, down);
        DUE.is("the last to the first", 1, x.copy(0, 59, 3, 0, 1));
        down[0] = up[59];
        sheetIs("the last to the first", x, 3, down);
        DUE.is("the first to the last", 1, x.copy(0, 0, 3, 59, 1));
        down[59] = up[0];
        sheetIs("the first to the last", x, 3, down);
        for (int lane = 0; lane < 4; lane++) {
            SharesOfSeries y = new SharesOfSeries();
            Made.sheet(y, 1, lane, Long.MIN_VALUE + 1, Long.MAX_VALUE);
            Made.sheet(y, 2, lane, 3);
            DUE.is("LANE " + lane, 1, y.copy(1, 1, 2, 0, 1));
            long highest = lane == 3 ? Long.MAX_VALUE : -1;
            long lowest = lane == 3 ? Long.MIN_VALUE + 1 : 1;
            DUE.is("LANE " + lane, Made.digestOf(30011, -1, 2, lowest, highest, 1, highest, -1, -1, 0, 1), y.digest());
        }
    }

    // By way of two SERIES, a SHEET being longer than one.
    private static void sheetIs(String what, SharesOfSeries x, int s, long[] want) {
        x.clear();
        x.series(s, 0, 29);
        x.series(s, 30, 29);
        for (int i = 0; i < 60; i++) DUE.is(what + ", number " + i, want[i], x.number(i / 30, i % 30));
    }

    // Like any n numbers, 0 of them have to lie in the row from the place that is told on: the last such place is the one
    // just behind the last number, and further on there is no such place.
    private static void copyOfNone() {
        DUE.about(5, "n numbers of a SHEET from i on come to another one (or the same) from j on");
        SharesOfSeries x = new SharesOfSeries();
        Made.sheet(x, 0, 2, 1, 2, 3);
        x.sheet(1, 2, 0);
        long before = x.digest();
        int[][] fine = {{0, 0, 0, 0}, {0, 3, 0, 3}, {0, 0, 1, 0}, {1, 0, 0, 3}, {1, 0, 1, 0}, {0, 3, 1, 0}};
        for (int[] w : fine) DUE.is("none from " + w[1] + " to " + w[3], 1, x.copy(w[0], w[1], w[2], w[3], 0));
        DUE.is("nothing came", before, x.digest());
        DUE.is("no CAUSE", 0, x.cause());
        DUE.about(5, "INDEX");
        int[][] wrong = {{0, 4, 0, 0}, {0, 0, 0, 4}, {0, -1, 0, 0}, {0, 0, 0, -1}, {1, 1, 0, 0}, {0, 0, 1, 1}, {1, -1, 1, 0},
            {0, Made.HIGH, 0, 0}, {0, 0, 0, Made.LOW}};
        for (int[] w : wrong) DUE.is("none from " + w[1] + " to " + w[3], Made.INDEX, x.copy(w[0], w[1], w[2], w[3], 0));
        DUE.is("nothing came", before, x.digest());
        everyRunInTheRow();
    }

    // One rule for all n, 0 among them: the run of places is in the row, or it is not.
    private static void everyRunInTheRow() {
        for (int size = 0; size <= 3; size++) {
            SharesOfSeries x = new SharesOfSeries();
            x.sheet(0, 0, size);
            x.sheet(1, 0, 60);
            for (int i = -2; i <= 5; i++) {
                for (int n = -1; n <= 4; n++) {
                    int due = n >= 0 && i >= 0 && i + n <= size ? 1 : Made.INDEX;
                    DUE.is(n + " of " + size + " from " + i, due, x.copy(0, i, 1, 0, n));
                    DUE.is(n + " to " + size + " at " + i, due, x.copy(1, 0, 0, i, n));
                }
            }
        }
    }

    private static void copyRefused() {
        SharesOfSeries x = new SharesOfSeries();
        Made.sheet(x, 0, 2, 1, 2, 3, 4, 5);
        Made.sheet(x, 1, 2, 6, 7, 8);
        Made.sheet(x, 2, 1, 9, 9, 9);
        long before = x.digest();
        DUE.about(5, "UNKNOWN: s, t");
        for (int s : Made.NO_SHEETS) {
            DUE.is("from " + s, SharesOfSeries.UNKNOWN, x.copy(s, 0, 0, 0, 1));
            DUE.is("to " + s, SharesOfSeries.UNKNOWN, x.copy(0, 0, s, 0, 1));
            DUE.is("both " + s, SharesOfSeries.UNKNOWN, x.copy(s, 0, s, 0, 1));
        }
        DUE.about(5, "NULL: s, then t");
        DUE.is("s", Made.NULL, x.copy(3, 0, 0, 0, 1));
        DUE.is("t", Made.NULL, x.copy(0, 0, 3, 0, 1));
        DUE.is("both", Made.NULL, x.copy(3, 0, 3, 0, 1));
        DUE.is("none of a LOST one", Made.NULL, x.copy(3, 0, 0, 0, 0));
        DUE.is("none to a LOST one", Made.NULL, x.copy(0, 0, 3, 0, 0));
        DUE.is("one CAUSE a call", 5, x.causes(1));
        DUE.about(5, "CAST");
        DUE.is("int to short", Made.CAST, x.copy(0, 0, 2, 0, 1));
        DUE.is("short to int", Made.CAST, x.copy(2, 0, 0, 0, 1));
        DUE.is("none of them", Made.CAST, x.copy(2, 0, 0, 0, 0));
        DUE.about(5, "INDEX (n below 0, too)");
        int[][] wrong = {{-1, 0, 1}, {0, -1, 1}, {5, 0, 1}, {0, 3, 1}, {4, 0, 2}, {0, 2, 2}, {0, 0, 4}, {3, 0, 3}, {0, 1, 3},
            {0, 0, -1}, {5, 3, -1}, {2, 2, -2}, {0, 0, Made.LOW}, {0, 0, Made.HIGH}, {1, 1, Made.HIGH},
            {Made.HIGH, 0, 1}, {0, Made.HIGH, 1}, {Made.HIGH, Made.HIGH, Made.HIGH}, {Made.LOW, Made.LOW, Made.LOW},
            {Made.LOW, 0, Made.LOW}, {0, Made.LOW, 1}, {Made.HIGH, 0, Made.LOW}};
        for (int[] w : wrong) {
            DUE.is(w[2] + " from " + w[0] + " to " + w[1], Made.INDEX, x.copy(0, w[0], 1, w[1], w[2]));
        }
        DUE.is("nothing came", before, x.digest());
        DUE.is("as many as there are", 1, x.copy(0, 2, 1, 0, 3));
    }

    private static void lose() {
        DUE.about(6, "A SHEET is LOST: how many numbers it had.");
        SharesOfSeries x = new SharesOfSeries();
        for (int s = 0; s < 4; s++) {
            for (int n : new int[] {0, 1, 60}) {
                x.sheet(s, s, n);
                DUE.is("of " + n, n, x.lose(s));
                DUE.is("LOST", Made.NULL, x.put(s, s, 0, 1));
            }
        }
        DUE.is("all are LOST", Made.digestOf(30011, -1, -1, -1, -1, -1, 0, 1), x.digest());
        DUE.about(6, "UNKNOWN");
        for (int s : Made.NO_SHEETS) DUE.is("SHEET " + s, SharesOfSeries.UNKNOWN, x.lose(s));
        DUE.about(6, "NULL");
        for (int s = 0; s < 4; s++) DUE.is("twice", Made.NULL, x.lose(s));
    }
}
