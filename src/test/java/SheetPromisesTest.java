/** Promises 1 to 6: a new object, the prime, and sheets. */
public final class SheetPromisesTest {
    private static final Due DUE = new Due("SheetPromisesTest");

    public static void main(String[] args) {
        promise1NewObject();
        promise2Prime();
        promise2Refusals();
        promise3Sheet();
        promise4Put();
        promise4Casts();
        promise5Copy();
        promise5Refusals();
        promise6Lose();
        DUE.end();
    }

    private static void promise1NewObject() {
        SharesOfSeries x = new SharesOfSeries();
        DUE.is("P", 30011, x.count(0));
        DUE.is("series", 0, x.count(1));
        DUE.is("points", 0, x.count(2));
        DUE.is("sheets", 0, x.count(3));
        DUE.is("cause", 0, x.cause());
        for (int c = 1; c <= 5; c++) DUE.is("causes " + c, 0, x.causes(c));
        DUE.is("digest", Made.digestOf(30011, -1, -1, -1, -1, -1, 0, 1), x.digest());
        Made.terms(DUE, "result", x, 0);
        Made.terms(DUE, "result", x, 1, 1);
        for (int s = 0; s < 4; s++) DUE.is("sheet " + s + " is lost", Made.NULL, x.lose(s));
        SharesOfSeries y = new SharesOfSeries();
        x.sheet(0, 0, 4);
        x.point(1, 1);
        DUE.is("another object's sheets", 0, y.count(3));
        DUE.is("another object's points", 0, y.count(2));
    }

    private static void promise2Prime() {
        SharesOfSeries x = new SharesOfSeries();
        DUE.is("prime 2", 30011, x.prime(2));
        DUE.is("prime 3", 2, x.prime(3));
        DUE.is("prime 30011", 3, x.prime(30011));
        DUE.is("the same prime", 30011, x.prime(30011));
        DUE.is("prime 29989", 30011, x.prime(29989));
        DUE.is("prime 7", 29989, x.prime(7));
        int f = Made.series(x, 8, -1, 15);
        Made.numbers(DUE, "modulo 7", x, f, 1, 6, 1);
        x.entry(f, 0, 2);
        x.clear();
        DUE.is("result ahead", 0, x.degree(0));
        DUE.is("result ahead", 1, x.degree(1));
        DUE.is("prime 7 again", 7, x.prime(7));
        Made.terms(DUE, "result behind", x, 0);
        Made.terms(DUE, "result behind", x, 1, 1);
        int known = 0;
        for (int p = -3; p <= 400; p++) if (x.prime(p) > 0) known++;
        DUE.is("primes up to 400", 78, known);
        Made.sheet(x, 0, 0, 5);
        DUE.is("sheets do not hinder", 397, x.prime(11));
        DUE.is("sheets stay", 1, x.count(3));
    }

    private static void promise2Refusals() {
        SharesOfSeries x = new SharesOfSeries();
        int[] none = {Made.LOW, -7, -1, 0, 1, 4, 9, 15, 25, 49, 169, 29929, 29987, 30009, 30012, 30013, 30029, Made.HIGH};
        for (int p : none) DUE.is("prime " + p, SharesOfSeries.OUTSIDE, x.prime(p));
        DUE.is("P stays", 30011, x.count(0));
        x.point(1, 2);
        DUE.is("points", SharesOfSeries.STATE, x.prime(7));
        DUE.is("points, the same prime", SharesOfSeries.STATE, x.prime(30011));
        DUE.is("outside ahead of state", SharesOfSeries.OUTSIDE, x.prime(8));
        x.wipe();
        Made.series(x, 1, 2);
        x.entry(0, 1, 0);
        DUE.is("series", SharesOfSeries.STATE, x.prime(7));
        DUE.is("P stays", 30011, x.count(0));
        Made.terms(DUE, "result stays", x, 0, 1, 2);
        DUE.is("no cause", 0, x.cause());
        x.clear();
        DUE.is("prime 7", 30011, x.prime(7));
    }

    private static void promise3Sheet() {
        SharesOfSeries x = new SharesOfSeries();
        DUE.is("least", 0, x.sheet(0, 0, 0));
        DUE.is("greatest", 60, x.sheet(3, 3, 60));
        DUE.is("sheets", 2, x.count(3));
        for (int s : new int[] {-1, 4, Made.LOW, Made.HIGH}) {
            DUE.is("sheet " + s, SharesOfSeries.UNKNOWN, x.sheet(s, 9, 99));
        }
        for (int lane : new int[] {-1, 4, Made.LOW, Made.HIGH}) {
            DUE.is("lane " + lane, SharesOfSeries.OUTSIDE, x.sheet(1, lane, -1));
        }
        DUE.is("above 60", SharesOfSeries.OUTSIDE, x.sheet(1, 2, 61));
        DUE.is("far above", SharesOfSeries.OUTSIDE, x.sheet(1, 2, Made.HIGH));
        DUE.is("no cause by refusals", 0, x.cause());
        DUE.is("below 0", Made.SIZE, x.sheet(1, 2, -1));
        DUE.is("far below 0", Made.SIZE, x.sheet(3, 2, Made.LOW));
        DUE.is("cause", 3, x.cause());
        DUE.is("causes", 2, x.causes(3));
        DUE.is("sheets stay", 2, x.count(3));
        DUE.is("put", 1, x.put(3, 3, 59, 9));
        DUE.is("a new row", 3, x.sheet(3, 3, 3));
        DUE.is("a longer one", 60, x.sheet(3, 1, 60));
        DUE.is("another lane now", Made.CAST, x.put(3, 3, 0, 1));
        long[] told = new long[68];
        told[0] = 30011;
        told[1] = 0;
        told[2] = -1;
        told[3] = -1;
        told[4] = 60;
        told[65] = -1;
        told[67] = 1;
        DUE.is("all 0 again", Made.digestOf(told), x.digest());
    }

    private static void promise4Put() {
        SharesOfSeries x = new SharesOfSeries();
        for (int s : new int[] {-1, 4, Made.LOW, Made.HIGH}) {
            DUE.is("sheet " + s, SharesOfSeries.UNKNOWN, x.put(s, 7, 0, 1));
        }
        for (int lane : new int[] {-1, 4, Made.LOW, Made.HIGH}) {
            DUE.is("lane " + lane, SharesOfSeries.OUTSIDE, x.put(0, lane, -1, 1));
        }
        DUE.is("lost", Made.NULL, x.put(0, 0, -1, 1));
        x.sheet(0, 1, 3);
        for (int lane : new int[] {0, 2, 3}) DUE.is("cast " + lane, Made.CAST, x.put(0, lane, 9, 1));
        for (int i : new int[] {-1, 3, Made.LOW, Made.HIGH}) DUE.is("index " + i, Made.INDEX, x.put(0, 1, i, 1));
        DUE.is("nothing was put", Made.digestOf(30011, 3, 0, 0, 0, -1, -1, -1, -1, 0, 1), x.digest());
        DUE.is("causes 1", 1, x.causes(1));
        DUE.is("causes 2", 4, x.causes(2));
        DUE.is("causes 4", 3, x.causes(4));
        DUE.is("first", 1, x.put(0, 1, 0, 5));
        DUE.is("last", 1, x.put(0, 1, 2, -6));
        DUE.is("both are put", Made.digestOf(30011, 3, 5, 0, -6, -1, -1, -1, -1, 0, 1), x.digest());
        x.sheet(1, 0, 0);
        DUE.is("an empty row", Made.INDEX, x.put(1, 0, 0, 1));
        x.sheet(2, 2, 60);
        DUE.is("place 59", 1, x.put(2, 2, 59, 1));
        DUE.is("place 60", Made.INDEX, x.put(2, 2, 60, 1));
    }

    private static void promise4Casts() {
        long[] told = {127, 128, -129, 255, 32768, -32769, 65535, 1L << 31, (1L << 31) - 1, -1L << 31,
            1L << 32, Long.MAX_VALUE, Long.MIN_VALUE, 0x123456789ABCDEFL};
        for (int lane = 0; lane < 4; lane++) {
            SharesOfSeries x = new SharesOfSeries();
            x.sheet(0, lane, 1);
            for (long v : told) {
                long cast = lane == 0 ? (byte) v : lane == 1 ? (short) v : lane == 2 ? (int) v : v;
                DUE.is("put " + v, 1, x.put(0, lane, 0, v));
                DUE.is("lane " + lane + " of " + v, Made.digestOf(30011, 1, cast, -1, -1, -1, -1, 0, 1), x.digest());
                x.series(0, 0, 0);
                DUE.is("residue of " + v, Math.floorMod(cast, 30011L), x.number(0, 0));
                x.clear();
            }
        }
    }

    private static void promise5Copy() {
        SharesOfSeries x = new SharesOfSeries();
        Made.sheet(x, 0, 2, 1, 2, 3, 4, 5);
        Made.sheet(x, 1, 2, 9, 9, 9);
        DUE.is("to another", 1, x.copy(0, 2, 1, 1, 2));
        DUE.is("it came", Made.digestOf(30011, 5, 1, 2, 3, 4, 5, 3, 9, 3, 4, -1, -1, -1, 0, 1), x.digest());
        DUE.is("upwards in the same", 1, x.copy(0, 0, 0, 1, 4));
        DUE.is("as if taken ahead", Made.digestOf(30011, 5, 1, 1, 2, 3, 4, 3, 9, 3, 4, -1, -1, -1, 0, 1), x.digest());
        DUE.is("downwards in the same", 1, x.copy(0, 2, 0, 0, 3));
        DUE.is("as if taken ahead", Made.digestOf(30011, 5, 2, 3, 4, 3, 4, 3, 9, 3, 4, -1, -1, -1, 0, 1), x.digest());
        DUE.is("all", 1, x.copy(1, 0, 0, 2, 3));
        DUE.is("all came", Made.digestOf(30011, 5, 2, 3, 9, 3, 4, 3, 9, 3, 4, -1, -1, -1, 0, 1), x.digest());
        long before = x.digest();
        DUE.is("none", 1, x.copy(0, 0, 1, 0, 0));
        DUE.is("none at the ends", 1, x.copy(0, 5, 1, 3, 0));
        DUE.is("nothing came", before, x.digest());
        DUE.is("no cause", 0, x.cause());
    }

    private static void promise5Refusals() {
        SharesOfSeries x = new SharesOfSeries();
        Made.sheet(x, 0, 2, 1, 2, 3, 4, 5);
        Made.sheet(x, 1, 2, 9, 9, 9);
        Made.sheet(x, 2, 3, 7);
        long before = x.digest();
        for (int s : new int[] {-1, 4, Made.LOW, Made.HIGH}) {
            DUE.is("from " + s, SharesOfSeries.UNKNOWN, x.copy(s, 0, 3, 0, 1));
            DUE.is("to " + s, SharesOfSeries.UNKNOWN, x.copy(3, 0, s, 0, 1));
        }
        DUE.is("from a lost one", Made.NULL, x.copy(3, -1, 2, 0, 1));
        DUE.is("to a lost one", Made.NULL, x.copy(0, -1, 3, 0, 1));
        DUE.is("other lanes", Made.CAST, x.copy(0, -1, 2, 0, 1));
        DUE.is("other lanes, none", Made.CAST, x.copy(0, 0, 2, 0, 0));
        int[][] wrong = {{-1, 0, 1}, {0, -1, 1}, {0, 0, -1}, {5, 0, 1}, {0, 3, 1}, {3, 0, 3}, {0, 1, 3}, {0, 0, 4},
            {6, 0, 0}, {0, 4, 0}, {Made.HIGH, 0, 1}, {0, Made.HIGH, 1}, {0, 0, Made.HIGH}, {Made.HIGH, 0, Made.HIGH},
            {Made.LOW, 0, 0}, {0, Made.LOW, 0}, {0, 0, Made.LOW}, {1, 1, Made.HIGH}, {-1, 0, 0}, {2, 2, -1}};
        for (int[] w : wrong) {
            DUE.is("copy 0 " + w[0] + " 1 " + w[1] + " " + w[2], Made.INDEX, x.copy(0, w[0], 1, w[1], w[2]));
        }
        DUE.is("nothing came", before, x.digest());
        DUE.is("causes 1", 2, x.causes(1));
        DUE.is("causes 2", wrong.length, x.causes(2));
        DUE.is("causes 4", 2, x.causes(4));
    }

    private static void promise6Lose() {
        SharesOfSeries x = new SharesOfSeries();
        for (int s : new int[] {-1, 4, Made.LOW, Made.HIGH}) {
            DUE.is("sheet " + s, SharesOfSeries.UNKNOWN, x.lose(s));
        }
        DUE.is("no cause", 0, x.cause());
        DUE.is("lost at first", Made.NULL, x.lose(3));
        x.sheet(3, 1, 60);
        x.sheet(0, 2, 0);
        DUE.is("sixty", 60, x.lose(3));
        DUE.is("none", 0, x.lose(0));
        DUE.is("again", Made.NULL, x.lose(3));
        DUE.is("sheets", 0, x.count(3));
        DUE.is("put", Made.NULL, x.put(3, 1, 0, 1));
        DUE.is("causes", 3, x.causes(1));
        x.sheet(1, 2, 2);
        x.put(1, 2, 0, 8);
        x.series(1, 0, 1);
        DUE.is("two", 2, x.lose(1));
        DUE.is("series stay", 8, x.number(0, 0));
    }
}
