/** Promises 22 to 24: points, and shares through them. */
public final class PointPromisesTest {
    private static final Due DUE = new Due("PointPromisesTest");

    public static void main(String[] args) {
        promise22Point();
        promise22Full();
        promise23Wipe();
        promise24Join();
        promise24None();
        promise24LowestTermBelow();
        promise24Refusals();
        promise24EveryShareOfSmallPrimes();
        promise24TwentyPoints();
        DUE.end();
    }

    private static void promise22Point() {
        SharesOfSeries x = Made.modulo(7);
        DUE.is("one", 1, x.point(3, 5));
        DUE.is("the same", 1, x.point(3, 5));
        DUE.is("the same residues", 1, x.point(10, -2));
        DUE.is("another y", SharesOfSeries.STATE, x.point(3, 4));
        DUE.is("another y, x as a residue", SharesOfSeries.STATE, x.point(-4, 6));
        DUE.is("two", 2, x.point(-1, 5));
        DUE.is("three", 3, x.point(Made.HIGH, Made.LOW));
        DUE.is("in order, as residues",
            Made.digestOf(7, -1, -1, -1, -1, 3, 5, 6, 5, Math.floorMod(Made.HIGH, 7), Math.floorMod(Made.LOW, 7), -1, 0, 1),
            x.digest());
        DUE.is("no cause", 0, x.cause());
        SharesOfSeries two = Made.modulo(2);
        DUE.is("0", 1, two.point(0, 1));
        DUE.is("1", 2, two.point(1, 1));
        DUE.is("2 is 0", 2, two.point(2, 3));
        DUE.is("2 is 0 with another y", SharesOfSeries.STATE, two.point(2, 0));
    }

    private static void promise22Full() {
        SharesOfSeries x = new SharesOfSeries();
        for (int i = 0; i < 20; i++) DUE.is("point " + i, i + 1, x.point(i, i * i));
        long before = x.digest();
        DUE.is("full", SharesOfSeries.FULL, x.point(20, 0));
        DUE.is("state ahead of full", SharesOfSeries.STATE, x.point(19, 0));
        DUE.is("the same when full", 20, x.point(19, 361));
        DUE.is("nothing changed", before, x.digest());
        DUE.is("twenty", 20, x.count(2));
    }

    private static void promise23Wipe() {
        SharesOfSeries x = new SharesOfSeries();
        DUE.is("none", 0, x.wipe());
        x.point(1, 5);
        x.point(2, 6);
        x.join(1, 0);
        Made.series(x, 1);
        DUE.is("two", 2, x.wipe());
        DUE.is("gone", 0, x.count(2));
        DUE.is("series stay", 1, x.count(1));
        Made.terms(DUE, "result stays", x, 0, 4, 1);
        DUE.is("another y now", 1, x.point(1, 9));
        DUE.is("one", 1, x.wipe());
    }

    private static void promise24Join() {
        SharesOfSeries x = new SharesOfSeries();
        x.point(4, -3);
        DUE.is("a number", 1, x.join(0, 0));
        Made.terms(DUE, "a number", x, 0, 30008);
        Made.terms(DUE, "a number", x, 1, 1);
        x.wipe();
        // (1 + 2x) by (1 - x) at 0, 2, 3: 1, -5, -7/2.
        x.point(0, 1);
        x.point(2, -5);
        x.point(3, half(-7));
        DUE.is("(1 + 2x) by (1 - x)", 1, x.join(1, 1));
        Made.terms(DUE, "(1 + 2x) by (1 - x)", x, 0, 1, 2);
        Made.terms(DUE, "(1 + 2x) by (1 - x)", x, 1, 1, 30010);
        DUE.is("as a parabola", 1, x.join(2, 0));
        DUE.is("q is a number", 0, x.degree(1));
        for (int[] at : new int[][] {{0, 1}, {2, 30006}, {3, half(-7)}}) DUE.is("value", at[1], x.value(at[0]));
        x.wipe();
        for (int i = 0; i < 5; i++) x.point(i, 3 * i + 2);
        for (int l = 1; l <= 4; l++) {
            DUE.is("2 + 3x as " + l, 1, x.join(l, 4 - l));
            Made.terms(DUE, "2 + 3x", x, 0, 2, 3);
            Made.terms(DUE, "2 + 3x", x, 1, 1);
        }
        x.wipe();
        for (int i = 1; i < 6; i++) x.point(i, 0);
        DUE.is("0", 1, x.join(2, 2));
        Made.terms(DUE, "0", x, 0);
        Made.terms(DUE, "0", x, 1, 1);
        DUE.is("0 as a number", 1, x.join(0, 4));
    }

    private static int half(int v) {
        return (int) Math.floorMod(v * 15006L, 30011L);
    }

    private static void promise24None() {
        SharesOfSeries x = new SharesOfSeries();
        Made.series(x, 5, 6);
        x.entry(0, 1, 0);
        x.point(0, 1);
        x.point(1, 1);
        x.point(2, 3);
        long before = x.digest();
        DUE.is("two alike and one other", 0, x.join(1, 1));
        DUE.is("the result stays", before, x.digest());
        DUE.is("no cause", 0, x.cause());
        x.wipe();
        x.point(0, 0);
        x.point(1, 0);
        x.point(2, 4);
        DUE.is("two of 0 and one other", 0, x.join(1, 1));
        DUE.is("one by something is never 0", 0, x.join(0, 2));
        DUE.is("a parabola", 1, x.join(2, 0));
        Made.terms(DUE, "a parabola", x, 0, 0, 30009, 2);
    }

    private static void promise24LowestTermBelow() {
        SharesOfSeries x = Made.modulo(7);
        x.point(1, 3);
        x.point(2, 5);
        DUE.is("3 by x", 1, x.join(0, 1));
        Made.terms(DUE, "3 by x", x, 0, 3);
        Made.terms(DUE, "3 by x", x, 1, 0, 1);
        DUE.is("at 0", SharesOfSeries.NONE, x.value(0));
        x.wipe();
        // 1 by (2 x + 4 x^2), made to have 1 as its lowest term below: 4 by (x + 2 x^2).
        int[] inverse = {0, 1, 4, 5, 2, 3, 6};
        for (int at : new int[] {1, 2, 4}) x.point(at, inverse[(2 * at + 4 * at * at) % 7]);
        DUE.is("1 by (2 x + 4 x^2)", 1, x.join(0, 2));
        Made.terms(DUE, "1 by (2 x + 4 x^2)", x, 0, 4);
        Made.terms(DUE, "1 by (2 x + 4 x^2)", x, 1, 0, 1, 2);
    }

    private static void promise24Refusals() {
        SharesOfSeries x = new SharesOfSeries();
        DUE.is("no points", SharesOfSeries.STATE, x.join(0, 0));
        x.point(1, 1);
        x.point(2, 3);
        x.point(3, 9);
        long before = x.digest();
        for (int[] w : new int[][] {{-1, 0}, {0, -1}, {-1, 3}, {3, -1}, {Made.LOW, 2}, {2, Made.LOW}, {Made.LOW, Made.HIGH}}) {
            DUE.is("join " + w[0] + " " + w[1], SharesOfSeries.OUTSIDE, x.join(w[0], w[1]));
        }
        for (int[] w : new int[][] {{0, 0}, {1, 0}, {0, 1}, {2, 1}, {0, 3}, {3, 0}, {Made.HIGH, 0}, {0, Made.HIGH},
            {Made.HIGH, Made.HIGH}, {Made.HIGH, 3}}) {
            DUE.is("join " + w[0] + " " + w[1], SharesOfSeries.STATE, x.join(w[0], w[1]));
        }
        DUE.is("nothing changed", before, x.digest());
        DUE.is("no cause", 0, x.cause());
    }

    // Tried with all pairs of polynomials there are.
    private static void promise24EveryShareOfSmallPrimes() {
        SharesOfSeries two = Made.modulo(2);
        two.point(0, 1);
        two.point(1, 0);
        DUE.is("modulo 2", 1, two.join(1, 0));
        Made.terms(DUE, "1 + x", two, 0, 1, 1);
        DUE.is("modulo 2, no number above", 0, two.join(0, 1));
        int p = 3;
        for (int l = 0; l <= 2; l++) {
            int m = 2 - l;
            for (int code = 0; code < 27; code++) {
                SharesOfSeries x = Made.modulo(p);
                int[] y = {code % 3, code / 3 % 3, code / 9};
                for (int i = 0; i < 3; i++) x.point(i, y[i]);
                boolean there = false;
                for (int terms = 0; terms < 81; terms++) there |= goesThrough(terms, y, l, m, p);
                String what = "join " + l + " " + m + " of " + java.util.Arrays.toString(y);
                DUE.is(what, there ? 1 : 0, x.join(l, m));
                if (!there) continue;
                DUE.holds(what + " degrees", x.degree(0) <= l && x.degree(1) <= m);
                for (int i = 0; i < 3; i++) DUE.is(what + " at " + i, y[i], x.value(i));
            }
        }
    }

    // l + 1 terms above, m + 1 below: four in all.
    private static boolean goesThrough(int code, int[] y, int l, int m, int p) {
        int[] d = {code % 3, code / 3 % 3, code / 9 % 3, code / 27};
        for (int i = 0; i < y.length; i++) {
            int above = 0, below = 0;
            for (int k = l; k >= 0; k--) above = (above * i + d[k]) % p;
            for (int k = m; k >= 0; k--) below = (below * i + d[l + 1 + k]) % p;
            if (below == 0 || above != below * y[i] % p) return false;
        }
        return true;
    }

    private static void promise24TwentyPoints() {
        SharesOfSeries x = new SharesOfSeries();
        Model model = new Model();
        for (int i = 0; i < 20; i++) {
            int y = (i * i * i * 17 + 5 * i + 3) % 101;
            x.point(3 * i - 7, y);
            model.point(3 * i - 7, y);
        }
        for (int l = 0; l <= 19; l++) {
            DUE.is("join " + l, model.join(l, 19 - l), x.join(l, 19 - l));
            DUE.is("digest after join " + l, model.digest(), x.digest());
        }
        SharesOfSeries line = new SharesOfSeries();
        for (int i = 0; i < 20; i++) line.point(i, i * i + 1);
        DUE.is("a parabola through twenty", 1, line.join(19, 0));
        Made.terms(DUE, "a parabola through twenty", line, 0, 1, 0, 1);
        DUE.is("and with a q", 1, line.join(10, 9));
        Made.terms(DUE, "and with a q", line, 0, 1, 0, 1);
        Made.terms(DUE, "and with a q", line, 1, 1);
    }
}
