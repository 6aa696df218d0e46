/** Promises 17 to 21: entries, worths, blocks, stairs and recurrences. */
public final class TablePromisesTest {
    private static final Due DUE = new Due("TablePromisesTest");
    private static final long[] FIBONACCI = {1, 1, 2, 3, 5, 8, 13, 21, 34, 55, 89};
    private static final int[][] NO_PAIRS = {{-1, 0}, {0, -1}, {11, 0}, {0, 11}, {6, 5}, {5, 6}, {10, 1},
        {Made.HIGH, 0}, {0, Made.HIGH}, {Made.HIGH, Made.HIGH}, {Made.LOW, 0}, {0, Made.LOW}, {Made.LOW, Made.LOW},
        {Made.HIGH, Made.LOW}, {-1, 5}, {12, -2}};
    private static final int[] NO_SERIES = {-1, 1, 10, Made.LOW, Made.HIGH};

    public static void main(String[] args) {
        promise17Entry();
        promise17WhereEntriesAgreeLess();
        promise17Zero();
        promise17EveryEntryOfSmallSeries();
        promise17Refusals();
        promise18Worth();
        promise18AgainstEntries();
        promise19Block();
        promise19BlocksAreSquares();
        promise20Stair();
        promise21Recur();
        promise21Result();
        promise21EverySmallSeries();
        longest();
        DUE.end();
    }

    private static void promise17Entry() {
        SharesOfSeries x = new SharesOfSeries();
        int f = Made.series(x, FIBONACCI);
        DUE.is("0, 0", 1, x.entry(f, 0, 0));
        Made.terms(DUE, "0, 0", x, 0, 1);
        Made.terms(DUE, "0, 0", x, 1, 1);
        DUE.is("1, 0", 2, x.entry(f, 1, 0));
        Made.terms(DUE, "1, 0", x, 0, 1, 1);
        Made.terms(DUE, "1, 0", x, 1, 1);
        DUE.is("0, 1", 2, x.entry(f, 0, 1));
        Made.terms(DUE, "0, 1", x, 1, 1, 30010);
        DUE.is("1, 1", 3, x.entry(f, 1, 1));
        Made.terms(DUE, "1, 1", x, 0, 1, 30010);
        Made.terms(DUE, "1, 1", x, 1, 1, 30009);
        for (int[] pair : new int[][] {{0, 2}, {1, 2}, {2, 2}, {3, 5}, {0, 10}, {5, 5}}) {
            DUE.is("whole series", 11, x.entry(f, pair[0], pair[1]));
            Made.terms(DUE, "whole series", x, 0, 1);
            Made.terms(DUE, "whole series", x, 1, 1, 30010, 30010);
        }
        DUE.is("10, 0", 11, x.entry(f, 10, 0));
        Made.terms(DUE, "10, 0", x, 0, FIBONACCI);
        int one = Made.series(x, 6);
        DUE.is("length 0", 1, x.entry(one, 0, 0));
        Made.terms(DUE, "length 0", x, 0, 6);
        DUE.is("no cause", 0, x.cause());
    }

    private static void promise17WhereEntriesAgreeLess() {
        SharesOfSeries x = new SharesOfSeries();
        int f = Made.series(x, 1, 0, 0, 1);
        DUE.is("0, 0", 3, x.entry(f, 0, 0));
        DUE.is("1, 2 agrees in fewer than 4", 3, x.entry(f, 1, 2));
        Made.terms(DUE, "1, 2", x, 0, 1);
        Made.terms(DUE, "1, 2", x, 1, 1);
        DUE.is("2, 1", 3, x.entry(f, 2, 1));
        Made.terms(DUE, "2, 1", x, 0, 1);
        DUE.is("0, 3", 4, x.entry(f, 0, 3));
        Made.terms(DUE, "0, 3", x, 1, 1, 0, 0, 30010);
        DUE.is("3, 0", 4, x.entry(f, 3, 0));
        Made.terms(DUE, "3, 0", x, 0, 1, 0, 0, 1);
        int g = Made.series(x, 0, 0, 5, 5);
        DUE.is("1, 1 of x^2", 2, x.entry(g, 1, 1));
        Made.terms(DUE, "0 by 1", x, 0);
        Made.terms(DUE, "0 by 1", x, 1, 1);
        DUE.is("2, 1 of x^2", 4, x.entry(g, 2, 1));
        Made.terms(DUE, "5 x^2 by (1 - x)", x, 0, 0, 0, 5);
        Made.terms(DUE, "5 x^2 by (1 - x)", x, 1, 1, 30010);
    }

    private static void promise17Zero() {
        SharesOfSeries x = new SharesOfSeries();
        int f = Made.series(x, 0, 0, 0, 0, 0);
        x.entry(Made.series(x, 3), 0, 0);
        DUE.is("0", 5, x.entry(f, 2, 2));
        Made.terms(DUE, "0", x, 0);
        Made.terms(DUE, "0", x, 1, 1);
        DUE.is("0, 4", 5, x.entry(f, 0, 4));
        DUE.is("4, 0", 5, x.entry(f, 4, 0));
    }

    // What the document says of entries, tried with all pairs of polynomials there are.
    private static void promise17EveryEntryOfSmallSeries() {
        for (int p : new int[] {2, 3}) {
            int n = p == 2 ? 4 : 3;
            int all = power(p, n + 1);
            for (int code = 0; code < all; code++) {
                SharesOfSeries x = Made.modulo(p);
                int[] c = digits(code, p, n + 1);
                int f = Made.series(x, longs(c));
                for (int l = 0; l <= n; l++) {
                    for (int m = 0; l + m <= n; m++) oneEntry(x, f, c, p, l, m);
                }
            }
        }
    }

    private static void oneEntry(SharesOfSeries x, int f, int[] c, int p, int l, int m) {
        String what = "modulo " + p + " entry " + l + " " + m + " of " + java.util.Arrays.toString(c);
        int agreed = x.entry(f, l, m);
        int dp = x.degree(0), dq = x.degree(1);
        DUE.holds(what + " degrees", dp <= l && dq <= m && dq >= 0);
        int[] above = new int[c.length + 1], below = new int[c.length + 1];
        for (int k = 0; k <= dp; k++) above[k] = x.term(0, k);
        for (int k = 0; k <= dq; k++) below[k] = x.term(1, k);
        DUE.is(what + " q at 0", 1, below[0]);
        for (int code = 1; code < power(p, l + m + 2); code++) {
            int[] d = digits(code, p, l + m + 2);
            if (solves(d, c, p, l, m)) DUE.holds(what + " is like " + code, alike(above, below, d, p, l, m));
        }
        int same = 0;
        while (same < c.length && above[same] == coefficient(below, c, p, same)) same++;
        DUE.is(what + " agrees", same, agreed);
        DUE.holds(what + " no common root", noCommonRoot(above, below, p) && (dp >= 0 || dq == 0));
    }

    // Alike as shares: told p times this q is told q times this p.
    private static boolean alike(int[] above, int[] below, int[] d, int p, int l, int m) {
        for (int k = 0; k <= l + m; k++) {
            int left = 0, right = 0;
            for (int j = 0; j <= k; j++) {
                left += above[j] * (k - j <= m ? d[l + 1 + k - j] : 0);
                right += below[j] * (k - j <= l ? d[k - j] : 0);
            }
            if (left % p != right % p) return false;
        }
        return true;
    }

    private static boolean solves(int[] d, int[] c, int p, int l, int m) {
        for (int k = 0; k <= l + m; k++) {
            int sum = k <= l ? p - d[k] : 0;
            for (int j = 0; j <= Math.min(k, m); j++) sum += d[l + 1 + j] * c[k - j];
            if (sum % p != 0) return false;
        }
        return true;
    }

    private static int coefficient(int[] below, int[] c, int p, int k) {
        int sum = 0;
        for (int j = 0; j <= k; j++) sum += below[j] * c[k - j];
        return sum % p;
    }

    private static boolean noCommonRoot(int[] above, int[] below, int p) {
        for (int at = 0; at < p; at++) {
            if (horner(above, at, p) == 0 && horner(below, at, p) == 0) return false;
        }
        return true;
    }

    private static int horner(int[] terms, int at, int p) {
        int sum = 0;
        for (int k = terms.length - 1; k >= 0; k--) sum = (sum * at + terms[k]) % p;
        return sum;
    }

    private static void promise17Refusals() {
        SharesOfSeries x = new SharesOfSeries();
        int f = Made.series(x, FIBONACCI);
        x.entry(f, 1, 1);
        long before = x.digest();
        for (int[] w : NO_PAIRS) {
            DUE.is("entry " + w[0] + " " + w[1], SharesOfSeries.OUTSIDE, x.entry(f, w[0], w[1]));
            DUE.is("worth " + w[0] + " " + w[1], SharesOfSeries.OUTSIDE, x.worth(f, w[0], w[1]));
            DUE.is("block " + w[0] + " " + w[1], SharesOfSeries.OUTSIDE, x.block(f, w[0], w[1], 0));
        }
        for (int no : NO_SERIES) {
            DUE.is("entry of " + no, SharesOfSeries.UNKNOWN, x.entry(no, -1, 0));
            DUE.is("worth of " + no, SharesOfSeries.UNKNOWN, x.worth(no, -1, 0));
            DUE.is("block of " + no, SharesOfSeries.UNKNOWN, x.block(no, -1, 0, 7));
            DUE.is("stair of " + no, SharesOfSeries.UNKNOWN, x.stair(no, -1));
            DUE.is("recur of " + no, SharesOfSeries.UNKNOWN, x.recur(no));
        }
        for (int what : new int[] {-1, 3, Made.LOW, Made.HIGH}) {
            DUE.is("block what " + what, SharesOfSeries.OUTSIDE, x.block(f, 0, 0, what));
        }
        for (int k : new int[] {-1, 11, Made.LOW, Made.HIGH}) {
            DUE.is("stair " + k, SharesOfSeries.OUTSIDE, x.stair(f, k));
        }
        DUE.is("nothing changed", before, x.digest());
        DUE.is("no cause", 0, x.cause());
    }

    private static void promise18Worth() {
        SharesOfSeries x = new SharesOfSeries();
        int f = Made.series(x, FIBONACCI);
        for (int l = 0; l <= 10; l++) DUE.is("worth " + l + " 0", 1, x.worth(f, l, 0));
        for (int l = 0; l <= 9; l++) DUE.is("worth " + l + " 1", FIBONACCI[l], x.worth(f, l, 1));
        for (int m = 0; m <= 10; m++) DUE.is("worth 0 " + m, 1, x.worth(f, 0, m));
        DUE.is("1, 2", 30010, x.worth(f, 1, 2));
        DUE.is("2, 2", 1, x.worth(f, 2, 2));
        DUE.is("3, 3", 0, x.worth(f, 3, 3));
        int g = Made.series(x, 2, 3, 5, 7, 11, 13);
        DUE.is("2^3", 8, x.worth(g, 0, 3));
        DUE.is("3 3 - 2 5", 30010, x.worth(g, 1, 2));
        DUE.is("3 3 3 - 2 2 3 5 + 2 2 7", 27 - 60 + 28 + 30011, x.worth(g, 1, 3));
        int h = Made.series(x, 0, 1, 0, 0, 0, 1, 0);
        DUE.is("0, 2", 0, x.worth(h, 0, 2));
        // One row with 1 in front below three with 1 behind the diagonal: three changes of rows.
        DUE.is("rows change places", 30010, x.worth(h, 2, 4));
        DUE.is("1, 4", 1, x.worth(h, 1, 4));
        DUE.is("a small one behind a great one", 0, x.worth(h, 0, 1));
        DUE.is("a small one behind a great one", 0, x.worth(h, 2, 2) + x.worth(h, 3, 2));
    }

    // The entry of l, m has exactly these degrees at most, and agrees as it should, where four worths are not 0.
    private static void promise18AgainstEntries() {
        SharesOfSeries x = new SharesOfSeries();
        int f = Made.series(x, 3, 1, 4, 1, 5, 9, 2, 6, 5, 3, 5, 8, 9, 7);
        for (int l = 1; l <= 6; l++) {
            for (int m = 1; m <= 6; m++) {
                x.entry(f, l, m);
                boolean both = x.degree(0) == l && x.degree(1) == m;
                boolean worths = x.worth(f, l, m) != 0 && x.worth(f, l + 1, m) != 0 && x.worth(f, l, m + 1) != 0;
                DUE.holds("pair " + l + " " + m, both == worths);
            }
        }
    }

    private static void promise19Block() {
        SharesOfSeries x = new SharesOfSeries();
        int f = Made.series(x, 1, 0, 0, 1);
        for (int[] pair : new int[][] {{0, 0}, {1, 0}, {0, 1}, {1, 1}, {2, 0}, {0, 2}, {2, 1}, {1, 2}}) {
            DUE.is("least l", 0, x.block(f, pair[0], pair[1], 0));
            DUE.is("least m", 0, x.block(f, pair[0], pair[1], 1));
            DUE.is("side", 3, x.block(f, pair[0], pair[1], 2));
        }
        DUE.is("3, 0 least l", 3, x.block(f, 3, 0, 0));
        DUE.is("3, 0 least m", 0, x.block(f, 3, 0, 1));
        DUE.is("3, 0 side", SharesOfSeries.NONE, x.block(f, 3, 0, 2));
        DUE.is("0, 3 least m", 3, x.block(f, 0, 3, 1));
        DUE.is("0, 3 side", SharesOfSeries.NONE, x.block(f, 0, 3, 2));
        Made.terms(DUE, "result stays", x, 0);
        Made.terms(DUE, "result stays", x, 1, 1);
        int g = Made.series(x, FIBONACCI);
        DUE.is("a normal one", 1, x.block(g, 1, 1, 0));
        DUE.is("a normal one", 1, x.block(g, 1, 1, 1));
        DUE.is("a normal one", 1, x.block(g, 1, 1, 2));
        int h = Made.series(x, 0, 0, 4, 0, 1);
        for (int what = 0; what < 3; what++) DUE.is("0 by 1", Made.ZERO, x.block(h, 1, 2, what));
        DUE.is("causes", 3, x.causes(5));
        DUE.is("cause", 5, x.cause());
        DUE.is("outside ahead of zero", SharesOfSeries.OUTSIDE, x.block(h, 1, 2, 3));
        DUE.is("2, 0", 2, x.block(h, 2, 0, 2));
    }

    // Within a block all entries are alike, and outside of it all are others.
    private static void promise19BlocksAreSquares() {
        SharesOfSeries x = Made.modulo(3);
        int f = Made.series(x, 1, 2, 1, 0, 0, 1, 1, 2, 0, 1, 2, 2);
        int n = x.length(f);
        for (int l = 0; l <= n; l++) {
            for (int m = 0; l + m <= n; m++) {
                int side = x.block(f, l, m, 2);
                int l0 = x.block(f, l, m, 0), m0 = x.block(f, l, m, 1);
                if (side < 0) continue;
                SharesOfSeries y = Made.modulo(3);
                Made.series(y, 1, 2, 1, 0, 0, 1, 1, 2, 0, 1, 2, 2);
                long mine = entryDigest(y, l, m);
                DUE.holds("pair within its block", l >= l0 && m >= m0 && l < l0 + side && m < m0 + side);
                for (int a = Math.max(0, l0 - 1); a <= l0 + side; a++) {
                    int b = m0 + (a - l0 < 0 ? 0 : a - l0);
                    if (a + b > n) continue;
                    boolean within = a >= l0 && a < l0 + side && b >= m0 && b < m0 + side;
                    DUE.holds("block of " + l + " " + m + " at " + a + " " + b, within == (entryDigest(y, a, b) == mine));
                }
            }
        }
    }

    private static long entryDigest(SharesOfSeries y, int l, int m) {
        y.entry(0, l, m);
        return y.digest();
    }

    private static void promise20Stair() {
        SharesOfSeries x = new SharesOfSeries();
        int f = Made.series(x, 1, 1, 1, 1, 1);
        long[] want = {1, 1, 30010, 0, Made.ZERO};
        for (int k = 0; k < want.length; k++) DUE.is("1 by (1 - x) stair " + k, want[k], x.stair(f, k));
        DUE.is("causes", 1, x.causes(5));
        int g = Made.series(x, FIBONACCI);
        DUE.is("Fibonacci 0", 1, x.stair(g, 0));
        DUE.is("Fibonacci 1", 1, x.stair(g, 1));
        DUE.is("Fibonacci 2", 30009, x.stair(g, 2));
        DUE.is("Fibonacci 3", 15006, x.stair(g, 3));
        DUE.is("Fibonacci 4", 15006, x.stair(g, 4));
        DUE.is("Fibonacci 5", 0, x.stair(g, 5));
        DUE.is("Fibonacci 6", Made.ZERO, x.stair(g, 6));
        DUE.is("Fibonacci 10", Made.ZERO, x.stair(g, 10));
        int h = Made.series(x, 0, 3, 6);
        DUE.is("a(0) may be 0", 0, x.stair(h, 0));
        DUE.is("and a(1) is told", 3, x.stair(h, 1));
        DUE.is("and a(2)", 30009, x.stair(h, 2));
        int z = Made.series(x, 5, 0, 1, 1);
        DUE.is("a(1) is 0", 0, x.stair(z, 1));
        DUE.is("so no a(2)", Made.ZERO, x.stair(z, 2));
        DUE.is("so no a(3)", Made.ZERO, x.stair(z, 3));
        DUE.is("length 0", 7, x.stair(Made.series(x, 7), 0));
        Made.terms(DUE, "result stays", x, 0);
        // 1 and x by (1 and x by (1 and x by ..)) has the numbers of Catalan with changing signs.
        int c = Made.series(x, 1, 1, -1, 2, -5, 14, -42, 132, -429);
        for (int k = 0; k <= 8; k++) DUE.is("Catalan " + k, 1, x.stair(c, k));
    }

    private static void promise21Recur() {
        SharesOfSeries x = new SharesOfSeries();
        long[][] told = {{0}, {0, 0, 0}, {4}, {1, 2, 4, 8}, {1, 0, 0, 0}, {0, 0, 1}, {0, 0, 0, 1}, {0, 1, 0, 0, 0, 0},
            {1, 1, 2, 3, 5}, {1, 1, 2, 3, 6}};
        int[] want = {0, 0, 1, 1, 1, 3, 4, 2, 2, 3};
        for (int i = 0; i < told.length; i++) {
            DUE.is("recur of " + java.util.Arrays.toString(told[i]), want[i], x.recur(Made.series(x, told[i])));
        }
        DUE.is("no cause", 0, x.cause());
    }

    private static void promise21Result() {
        SharesOfSeries x = new SharesOfSeries();
        x.recur(Made.series(x, FIBONACCI));
        Made.terms(DUE, "Fibonacci", x, 0, 1);
        Made.terms(DUE, "Fibonacci", x, 1, 1, 30010, 30010);
        DUE.is("too few numbers", 1, x.recur(Made.series(x, 4)));
        Made.terms(DUE, "stays", x, 1, 1, 30010, 30010);
        DUE.is("two and a number too few", 2, x.recur(Made.series(x, 1, 3, 10)));
        Made.terms(DUE, "stays", x, 1, 1, 30010, 30010);
        DUE.is("just enough", 1, x.recur(Made.series(x, 4, 12)));
        Made.terms(DUE, "4 by (1 - 3x)", x, 0, 4);
        Made.terms(DUE, "4 by (1 - 3x)", x, 1, 1, 30008);
        DUE.is("two, just enough", 2, x.recur(Made.series(x, 1, 1, 2, 3)));
        Made.terms(DUE, "two, just enough", x, 1, 1, 30010, 30010);
        DUE.is("x", 2, x.recur(Made.series(x, 0, 1, 0, 0, 0, 0)));
        Made.terms(DUE, "x", x, 0, 0, 1);
        Made.terms(DUE, "x", x, 1, 1);
        DUE.is("0", 0, x.recur(Made.series(x, 0, 0)));
        Made.terms(DUE, "0", x, 0);
        Made.terms(DUE, "0", x, 1, 1);
        DUE.is("all of it", 4, x.recur(Made.series(x, 0, 0, 0, 1)));
        Made.terms(DUE, "stays 0", x, 0);
    }

    // Tried with every q there is.
    private static void promise21EverySmallSeries() {
        for (int p : new int[] {2, 3}) {
            int n = p == 2 ? 6 : 4;
            for (int code = 0; code < power(p, n + 1); code++) {
                int[] c = digits(code, p, n + 1);
                SharesOfSeries x = Made.modulo(p);
                int r = 0;
                while (!someQ(c, p, r)) r++;
                DUE.is("modulo " + p + " recur of " + java.util.Arrays.toString(c), r, x.recur(Made.series(x, longs(c))));
            }
        }
    }

    private static boolean someQ(int[] c, int p, int r) {
        for (int code = 0; code < power(p, r); code++) {
            int[] rest = digits(code, p, r);
            boolean works = true;
            for (int k = r; k < c.length && works; k++) {
                int sum = c[k];
                for (int j = 1; j <= r; j++) sum += rest[j - 1] * c[k - j];
                works = sum % p == 0;
            }
            if (works) return true;
        }
        return false;
    }

    // The greatest length there is, against the model.
    private static void longest() {
        for (int p : new int[] {2, 5, 30011}) {
            SharesOfSeries x = Made.modulo(p);
            Model model = new Model();
            model.prime(p);
            long[] numbers = new long[41];
            for (int k = 0; k <= 40; k++) numbers[k] = (k * k * 31L + 7 * k) % 97 - 40;
            Made.series(x, numbers);
            model.sheets[0] = numbers;
            model.series(0, 0, 40);
            model.sheets[0] = null;
            for (int l = 0; l <= 40; l += 4) {
                int m = 40 - l;
                DUE.is("entry " + l + " " + m, model.entry(0, l, m), x.entry(0, l, m));
                DUE.is("digest after entry " + l + " " + m, model.digest(), x.digest());
                DUE.is("worth " + l + " " + m, model.worth(0, l, m), x.worth(0, l, m));
            }
            DUE.is("recur", model.recur(0), x.recur(0));
        }
    }

    private static int power(int p, int k) {
        int result = 1;
        for (int i = 0; i < k; i++) result *= p;
        return result;
    }

    private static int[] digits(int code, int p, int n) {
        int[] digits = new int[n];
        int rest = code;
        for (int i = 0; i < n; i++) {
            digits[i] = rest % p;
            rest /= p;
        }
        return digits;
    }

    private static long[] longs(int[] numbers) {
        long[] told = new long[numbers.length];
        for (int i = 0; i < told.length; i++) told[i] = numbers[i];
        return told;
    }
}
