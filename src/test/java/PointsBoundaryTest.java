/** Every sentence of promises 22 to 24 by itself, at its boundaries. */
public final class PointsBoundaryTest {
    private static final Due DUE = new Due("PointsBoundaryTest");

    public static void main(String[] args) {
        point();
        pointRefused();
        wipe();
        join();
        joinOfTwenty();
        joinNone();
        joinRefused();
        joinLowestTerm();
        DUE.end();
    }

    private static void point() {
        DUE.about(22, "A POINT: how many there are.");
        SharesOfSeries x = new SharesOfSeries();
        for (int i = 1; i <= 20; i++) DUE.is("POINT " + i, i, x.point(30011 - i, i));
        DUE.is("count", 20, x.count(2));
        SharesOfSeries two = Made.modulo(2);
        DUE.is("0 modulo 2", 1, two.point(0, 1));
        DUE.is("1 modulo 2", 2, two.point(1, 1));
        DUE.is("no third modulo 2", 2, two.point(2, -1));
        SharesOfSeries ends = new SharesOfSeries();
        DUE.is("LOW, HIGH", 1, ends.point(Made.LOW, Made.HIGH));
        DUE.is("HIGH, LOW", 2, ends.point(Made.HIGH, Made.LOW));
        DUE.is("as RESIDUES", Made.digestOf(30011, -1, -1, -1, -1, Math.floorMod(Made.LOW, 30011), Math.floorMod(Made.HIGH, 30011),
            Math.floorMod(Made.HIGH, 30011), Math.floorMod(Made.LOW, 30011), -1, 0, 1), ends.digest());
    }

    private static void pointRefused() {
        DUE.about(22, "STATE: this x is there with another y (with the same: nothing is done, how many there are)");
        SharesOfSeries x = new SharesOfSeries();
        x.point(5, 6);
        x.point(7, 8);
        long before = x.digest();
        for (int at : new int[] {5, 5 + 30011, 5 - 30011}) {
            DUE.is("another y", SharesOfSeries.STATE, x.point(at, 7));
            DUE.is("the same", 2, x.point(at, 6));
            DUE.is("the same RESIDUE", 2, x.point(at, 6 - 30011));
        }
        DUE.is("the last one, another y", SharesOfSeries.STATE, x.point(7, 6));
        DUE.is("the last one, the same", 2, x.point(7, 8));
        DUE.is("nothing is done", before, x.digest());
        SharesOfSeries full = Made.twentyPoints();
        DUE.is("the first of twenty, the same", 20, full.point(0, 0));
        DUE.is("the last of twenty, the same", 20, full.point(19, 361));
        DUE.is("the last of twenty, another y", SharesOfSeries.STATE, full.point(19, 360));
        DUE.about(22, "FULL.");
        DUE.is("a twenty-first", SharesOfSeries.FULL, full.point(20, 400));
        DUE.is("a twenty-first", SharesOfSeries.FULL, full.point(-1, 1));
        full.wipe();
        DUE.is("after wipe", 1, full.point(20, 400));
    }

    private static void wipe() {
        DUE.about(23, "All POINTS are gone: how many there were.");
        SharesOfSeries x = new SharesOfSeries();
        DUE.is("none", 0, x.wipe());
        x.point(1, 2);
        DUE.is("one", 1, x.wipe());
        DUE.is("none again", 0, x.wipe());
        DUE.is("gone", 1, x.point(1, 3));
        SharesOfSeries full = Made.twentyPoints();
        DUE.is("twenty", 20, full.wipe());
        DUE.is("count", 0, full.count(2));
        DUE.is("join", SharesOfSeries.STATE, full.join(10, 9));
        for (int i = 0; i < 20; i++) DUE.is("twenty anew", i + 1, full.point(i, 1));
        DUE.is("and no more", SharesOfSeries.FULL, full.point(20, 1));
    }

    private static void join() {
        DUE.about(24, "The SHARE with p, q of DEGREES l, m at most THROUGH all POINTS, there being l + m + 1 of them: 1: THE RESULT"
            + " becomes it (there is one at most).");
        SharesOfSeries x = new SharesOfSeries();
        x.point(0, 0);
        DUE.is("one POINT, 0", 1, x.join(0, 0));
        Made.zeroResult(DUE, "one POINT, 0", x);
        x.wipe();
        x.point(Made.HIGH, -1);
        DUE.is("one POINT", 1, x.join(0, 0));
        Made.terms(DUE, "one POINT", x, 0, 30010);
        Made.terms(DUE, "one POINT", x, 1, 1);
        x.wipe();
        // 1 by 1 - x at 0 and 2.
        x.point(0, 1);
        x.point(2, -1);
        DUE.is("0, 1", 1, x.join(0, 1));
        Made.terms(DUE, "0, 1", x, 0, 1);
        Made.terms(DUE, "0, 1", x, 1, 1, 30010);
        DUE.is("1, 0", 1, x.join(1, 0));
        Made.terms(DUE, "1, 0", x, 0, 1, 30010);
        Made.terms(DUE, "1, 0", x, 1, 1);
        SharesOfSeries two = Made.modulo(2);
        two.point(0, 1);
        two.point(1, 0);
        DUE.is("modulo 2", 1, two.join(1, 0));
        Made.terms(DUE, "modulo 2", two, 0, 1, 1);
        two.wipe();
        two.point(0, 1);
        two.point(1, 1);
        DUE.is("modulo 2, all 1", 1, two.join(0, 1));
        Made.terms(DUE, "modulo 2, all 1", two, 0, 1);
        Made.terms(DUE, "modulo 2, all 1", two, 1, 1);
    }

    private static void joinOfTwenty() {
        SharesOfSeries x = Made.twentyPoints();
        for (int l = 2; l <= 19; l++) {
            DUE.is("x^2 as " + l, 1, x.join(l, 19 - l));
            Made.terms(DUE, "x^2", x, 0, 0, 0, 1);
            Made.terms(DUE, "x^2", x, 1, 1);
        }
        // x by the q that is 1 by x at 1 to 19: another SHARE with the same values.
        DUE.is("as 1, 18", 1, x.join(1, 18));
        DUE.is("p is a multiple of x", 0, x.term(0, 0));
        for (int i = 0; i < 20; i++) DUE.is("at " + i, i * i, x.value(i));
        DUE.is("as 0, 19: 0 at 0 and not elsewhere", 0, x.join(0, 19));
        // 1 by x^2: below of 2 at least.
        SharesOfSeries y = new SharesOfSeries();
        for (int i = 1; i <= 20; i++) y.point(i, inverse(i * i));
        for (int l = 0; l <= 17; l++) {
            DUE.is("1 by x^2 as " + l, 1, y.join(l, 19 - l));
            Made.terms(DUE, "1 by x^2", y, 0, 1);
            Made.terms(DUE, "1 by x^2", y, 1, 0, 0, 1);
        }
        DUE.is("as a polynomial", 1, y.join(19, 0));
        Made.terms(DUE, "q of a polynomial", y, 1, 1);
        for (int i = 1; i <= 20; i++) DUE.is("at " + i, inverse(i * i), y.value(i));
    }

    private static int inverse(int a) {
        return java.math.BigInteger.valueOf(a).modInverse(java.math.BigInteger.valueOf(30011)).intValue();
    }

    private static void joinNone() {
        DUE.about(24, "0: there is none (THE RESULT stays).");
        SharesOfSeries x = new SharesOfSeries();
        Made.series(x, 4, 12);
        x.entry(0, 0, 1);
        x.point(0, 0);
        x.point(1, 1);
        DUE.is("a number by q is never 0", 0, x.join(0, 1));
        Made.terms(DUE, "stays", x, 0, 4);
        Made.terms(DUE, "stays", x, 1, 1, 30008);
        DUE.is("no CAUSE", 0, x.cause());
        x.wipe();
        for (int i = 0; i < 20; i++) x.point(i, i == 19 ? 1 : 0);
        long before = x.digest();
        for (int l = 0; l <= 18; l++) DUE.is("nineteen of 0 and one other as " + l, 0, x.join(l, 19 - l));
        DUE.is("stays", before, x.digest());
        DUE.is("but as a polynomial", 1, x.join(19, 0));
    }

    private static void joinRefused() {
        SharesOfSeries x = new SharesOfSeries();
        SharesOfSeries none = new SharesOfSeries();
        for (int i = 0; i < 3; i++) x.point(i, 5);
        DUE.about(24, "OUTSIDE: l, m are below 0");
        int[][] below = {{-1, 3}, {3, -1}, {-1, -1}, {-1, 0}, {0, -1}, {Made.LOW, 0}, {0, Made.LOW}, {Made.LOW, Made.HIGH},
            {Made.HIGH, Made.LOW}, {Made.LOW, Made.LOW}};
        for (int[] w : below) {
            DUE.is("join " + w[0] + " " + w[1], SharesOfSeries.OUTSIDE, x.join(w[0], w[1]));
            DUE.is("join " + w[0] + " " + w[1] + " of none", SharesOfSeries.OUTSIDE, none.join(w[0], w[1]));
        }
        DUE.about(24, "STATE: there are not so many POINTS.");
        DUE.is("no POINT", SharesOfSeries.STATE, none.join(0, 0));
        // One too few, one too many, and sums at the end of the ints, where 3 is what wraps around.
        int[][] wrong = {{0, 3}, {3, 0}, {2, 1}, {1, 2}, {0, 1}, {1, 0}, {0, 0}, {Made.HIGH, 0}, {0, Made.HIGH}, {Made.HIGH, 1},
            {1, Made.HIGH}, {Made.HIGH, Made.HIGH}, {Made.HIGH, 2}, {Made.HIGH - 1, 2}};
        for (int[] w : wrong) DUE.is("join " + w[0] + " " + w[1], SharesOfSeries.STATE, x.join(w[0], w[1]));
        Made.zeroResult(DUE, "THE RESULT stays", x);
        for (int l = 0; l <= 2; l++) DUE.is("as many", 1, x.join(l, 2 - l));
        SharesOfSeries full = Made.twentyPoints();
        DUE.is("one too few", SharesOfSeries.STATE, full.join(19, 1));
        DUE.is("one too many", SharesOfSeries.STATE, full.join(18, 0));
        DUE.is("twenty", 1, full.join(19, 0));
    }

    private static void joinLowestTerm() {
        DUE.about(24, "(q need not be 1 at 0 here: it is made so that its lowest TERM that is not 0 is 1.)");
        SharesOfSeries pole = Made.pole(30011);
        Made.terms(DUE, "1 by x", pole, 0, 1);
        Made.terms(DUE, "1 by x", pole, 1, 0, 1);
        DUE.is("not at 0", SharesOfSeries.NONE, pole.value(0));
        // 6 by (3 x^2 - 3 x^3): 2 by (x^2 - x^3).
        SharesOfSeries x = new SharesOfSeries();
        for (int at = 2; at <= 5; at++) x.point(at, 6 * inverse(Math.floorMod(3 * at * at - 3 * at * at * at, 30011)));
        DUE.is("6 by (3 x^2 - 3 x^3)", 1, x.join(0, 3));
        Made.terms(DUE, "above", x, 0, 2);
        Made.terms(DUE, "below", x, 1, 0, 0, 1, 30010);
        // (2 + x) by (4 + x): a half and a quarter x by 1 and a quarter x.
        SharesOfSeries y = new SharesOfSeries();
        for (int at = 0; at <= 2; at++) y.point(at, (int) ((2 + at) * (long) inverse(4 + at) % 30011));
        DUE.is("(2 + x) by (4 + x)", 1, y.join(1, 1));
        Made.terms(DUE, "above", y, 0, inverse(2), inverse(4));
        Made.terms(DUE, "below", y, 1, 1, inverse(4));
    }
}
