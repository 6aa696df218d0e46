import java.math.BigInteger;
import java.util.ArrayList;
import java.util.Arrays;
import java.util.List;

/**
 * The document once more, in another way: systems of linear equations solved afresh for each question
 * instead of remainders, whole-number determinants, and no row used twice.
 */
final class Model {
    static final int NONE = -1, UNKNOWN = -101, OUTSIDE = -102, STATE = -103, FULL = -104;

    int p = 30011;
    final long[][] sheets = new long[4][];
    final int[] lanes = new int[4];
    final List<int[]> series = new ArrayList<>();
    final List<int[]> points = new ArrayList<>();
    int[] above = {};
    int[] below = {1};
    int latest = 0;
    final int[] counts = new int[6];

    // ---- calls

    int prime(int q) {
        if (q < 2 || q > 30011 || !BigInteger.valueOf(q).isProbablePrime(40)) return OUTSIDE;
        if (!series.isEmpty() || !points.isEmpty()) return STATE;
        int was = p;
        p = q;
        above = new int[0];
        below = new int[] {1};
        return was;
    }

    int sheet(int s, int lane, int n) {
        if (s < 0 || s > 3) return UNKNOWN;
        if (lane < 0 || lane > 3) return OUTSIDE;
        if (n > 60) return OUTSIDE;
        if (n < 0) return caused(3);
        sheets[s] = new long[n];
        lanes[s] = lane;
        return n;
    }

    int put(int s, int lane, int i, long v) {
        if (s < 0 || s > 3) return UNKNOWN;
        if (lane < 0 || lane > 3) return OUTSIDE;
        if (sheets[s] == null) return caused(1);
        if (lanes[s] != lane) return caused(4);
        if (i < 0 || i >= sheets[s].length) return caused(2);
        int bits = 8 << lane;
        sheets[s][i] = v << 64 - bits >> 64 - bits;
        return 1;
    }

    int copy(int s, int i, int t, int j, int n) {
        if (s < 0 || s > 3 || t < 0 || t > 3) return UNKNOWN;
        if (sheets[s] == null || sheets[t] == null) return caused(1);
        if (lanes[s] != lanes[t]) return caused(4);
        if (n < 0 || i < 0 || j < 0) return caused(2);
        if ((long) i + n > sheets[s].length || (long) j + n > sheets[t].length) return caused(2);
        long[] taken = Arrays.copyOfRange(sheets[s], i, i + n);
        for (int k = 0; k < n; k++) sheets[t][j + k] = taken[k];
        return 1;
    }

    int lose(int s) {
        if (s < 0 || s > 3) return UNKNOWN;
        if (sheets[s] == null) return caused(1);
        int had = sheets[s].length;
        sheets[s] = null;
        return had;
    }

    int series(int s, int i, int n) {
        if (s < 0 || s > 3) return UNKNOWN;
        if (n < 0 || n > 40) return OUTSIDE;
        if (sheets[s] == null) return caused(1);
        if (i < 0 || (long) i + n + 1 > sheets[s].length) return caused(2);
        if (series.size() == 10) return FULL;
        return keep(read(s, i, n + 1));
    }

    int share(int s, int i, int l, int m, int n) {
        if (s < 0 || s > 3) return UNKNOWN;
        if (l < 0 || l > 40 || m < 0 || m > 40 || n < 0 || n > 40) return OUTSIDE;
        if (sheets[s] == null) return caused(1);
        if (i < 0 || (long) i + l + m + 2 > sheets[s].length) return caused(2);
        int[] q = read(s, i + l + 1, m + 1);
        if (q[0] == 0) return caused(5);
        if (series.size() == 10) return FULL;
        return keep(expansion(read(s, i, l + 1), q, n));
    }

    int unfold(int n) {
        if (n < 0 || n > 40) return OUTSIDE;
        if (at(below, 0) == 0) return caused(5);
        if (series.size() == 10) return FULL;
        return keep(expansion(above, below, n));
    }

    int plus(int f, int g, int b) {
        if (lacks(f) || lacks(g)) return UNKNOWN;
        if (series.size() == 10) return FULL;
        int[] a = series.get(f), c = series.get(g);
        int[] sum = new int[Math.min(a.length, c.length)];
        for (int k = 0; k < sum.length; k++) sum[k] = mod(a[k] + (long) mod(b) * c[k]);
        return keep(sum);
    }

    int times(int f, int g) {
        if (lacks(f) || lacks(g)) return UNKNOWN;
        if (series.size() == 10) return FULL;
        int[] a = series.get(f), b = series.get(g);
        return keep(Arrays.copyOf(product(a, b), Math.min(a.length, b.length)));
    }

    int under(int f) {
        if (lacks(f)) return UNKNOWN;
        int[] c = series.get(f);
        if (c[0] == 0) return caused(5);
        if (series.size() == 10) return FULL;
        return keep(expansion(new int[] {1}, c, c.length - 1));
    }

    int moved(int f, int a, int k) {
        if (lacks(f)) return UNKNOWN;
        if (k < 0 || k > 40) return OUTSIDE;
        if (series.size() == 10) return FULL;
        int[] c = series.get(f);
        int[] to = new int[c.length];
        for (int j = k; j < c.length; j++) to[j] = mod((long) c[j - k] * power(mod(a), j - k));
        return keep(to);
    }

    int number(int f, int k) {
        if (lacks(f)) return UNKNOWN;
        return k < 0 || k >= series.get(f).length ? NONE : series.get(f)[k];
    }

    int length(int f) {
        return lacks(f) ? UNKNOWN : series.get(f).length - 1;
    }

    int clear() {
        int had = series.size();
        series.clear();
        return had;
    }

    int entry(int f, int l, int m) {
        if (lacks(f)) return UNKNOWN;
        if (l < 0 || m < 0 || (long) l + m >= series.get(f).length) return OUTSIDE;
        int[][] found = entryOf(series.get(f), l, m);
        above = found[0];
        below = found[1];
        return agrees(series.get(f), found);
    }

    int worth(int f, int l, int m) {
        if (lacks(f)) return UNKNOWN;
        if (l < 0 || m < 0 || (long) l + m >= series.get(f).length) return OUTSIDE;
        BigInteger[][] table = new BigInteger[m][m];
        for (int i = 0; i < m; i++) {
            for (int j = 0; j < m; j++) table[i][j] = BigInteger.valueOf(at(series.get(f), l + i - j));
        }
        return determinant(table).mod(BigInteger.valueOf(p)).intValue();
    }

    int block(int f, int l, int m, int what) {
        if (lacks(f)) return UNKNOWN;
        if (l < 0 || m < 0 || (long) l + m >= series.get(f).length || what < 0 || what > 2) return OUTSIDE;
        int[][] found = entryOf(series.get(f), l, m);
        if (found[0].length == 0) return caused(5);
        if (what < 2) return found[what].length - 1;
        int agreed = agrees(series.get(f), found);
        if (agreed == series.get(f).length) return NONE;
        int k = agreed - (found[0].length - 1) - (found[1].length - 1) - 1;
        return k + 1;
    }

    int stair(int f, int k) {
        if (lacks(f)) return UNKNOWN;
        int[] c = series.get(f);
        if (k < 0 || k >= c.length) return OUTSIDE;
        int[] a = new int[k + 1];
        a[0] = c[0];
        for (int i = 1; i <= k; i++) {
            if (i > 1 && a[i - 1] == 0) return caused(5);
            a[i] = nextStair(c, a, i);
        }
        return a[k];
    }

    int recur(int f) {
        if (lacks(f)) return UNKNOWN;
        int[] c = series.get(f);
        int n = c.length - 1;
        int r = 0;
        while (!recurs(c, r)) r++;
        if (r == 0) {
            above = new int[0];
            below = new int[] {1};
        } else if (2 * r - 1 <= n) {
            int[][] found = entryOf(c, r - 1, r);
            above = found[0];
            below = found[1];
        }
        return r;
    }

    int point(int x, int y) {
        for (int[] known : points) {
            if (known[0] == mod(x)) return known[1] == mod(y) ? points.size() : STATE;
        }
        if (points.size() == 20) return FULL;
        points.add(new int[] {mod(x), mod(y)});
        return points.size();
    }

    int wipe() {
        int had = points.size();
        points.clear();
        return had;
    }

    int join(int l, int m) {
        if (l < 0 || m < 0) return OUTSIDE;
        if (points.size() != (long) l + m + 1) return STATE;
        int[][] rows = new int[points.size()][l + m + 2];
        for (int i = 0; i < rows.length; i++) {
            int x = points.get(i)[0], y = points.get(i)[1];
            for (int k = 0; k <= l; k++) rows[i][k] = power(x, k);
            for (int k = 0; k <= m; k++) rows[i][l + 1 + k] = mod(-(long) y * power(x, k));
        }
        int[] solved = solution(rows, l + m + 2);
        int[][] found = reduced(Arrays.copyOf(solved, l + 1), Arrays.copyOfRange(solved, l + 1, l + m + 2));
        for (int[] each : points) {
            int under = valueOf(found[1], each[0]);
            if (under == 0 || mod((long) under * each[1]) != valueOf(found[0], each[0])) return 0;
        }
        above = found[0];
        below = found[1];
        return 1;
    }

    int degree(int side) {
        return side < 0 || side > 1 ? OUTSIDE : (side == 0 ? above : below).length - 1;
    }

    int term(int side, int k) {
        return side < 0 || side > 1 ? OUTSIDE : at(side == 0 ? above : below, k);
    }

    int value(int x) {
        int under = valueOf(below, mod(x));
        return under == 0 ? NONE : mod((long) valueOf(above, mod(x)) * inverse(under));
    }

    int cause() {
        return latest;
    }

    int causes(int c) {
        return c < 1 || c > 5 ? OUTSIDE : counts[c];
    }

    int count(int what) {
        int present = 0;
        for (long[] each : sheets) present += each == null ? 0 : 1;
        return what < 0 || what > 3 ? OUTSIDE : new int[] {p, series.size(), points.size(), present}[what];
    }

    long digest() {
        List<Long> told = new ArrayList<>();
        told.add((long) p);
        for (long[] each : sheets) {
            told.add(each == null ? -1L : each.length);
            if (each != null) for (long v : each) told.add(v);
        }
        for (int[] each : series) {
            told.add(each.length - 1L);
            for (int v : each) told.add((long) v);
        }
        for (int[] each : points) {
            told.add((long) each[0]);
            told.add((long) each[1]);
        }
        told.add(above.length - 1L);
        told.add(below.length - 1L);
        for (int v : above) told.add((long) v);
        for (int v : below) told.add((long) v);
        long h = 89;
        for (long v : told) h = 31 * h + v;
        return h;
    }

    // ---- what they need

    private int caused(int c) {
        latest = c;
        counts[c]++;
        return -10 - c;
    }

    private boolean lacks(int f) {
        return f < 0 || f >= series.size();
    }

    private int keep(int[] numbers) {
        series.add(numbers);
        return series.size() - 1;
    }

    private int[] read(int s, int from, int n) {
        int[] numbers = new int[n];
        for (int k = 0; k < n; k++) numbers[k] = mod(sheets[s][from + k]);
        return numbers;
    }

    int mod(long v) {
        return BigInteger.valueOf(v).mod(BigInteger.valueOf(p)).intValue();
    }

    int inverse(int a) {
        return BigInteger.valueOf(a).modInverse(BigInteger.valueOf(p)).intValue();
    }

    int power(int a, int k) {
        return BigInteger.valueOf(a).modPow(BigInteger.valueOf(k), BigInteger.valueOf(p)).intValue();
    }

    static int at(int[] terms, int k) {
        return k < 0 || k >= terms.length ? 0 : terms[k];
    }

    int valueOf(int[] terms, int x) {
        long sum = 0;
        for (int k = 0; k < terms.length; k++) sum += (long) terms[k] * power(x, k);
        return mod(sum);
    }

    int[] product(int[] a, int[] b) {
        int[] to = new int[a.length + b.length];
        for (int i = 0; i < a.length; i++) {
            for (int j = 0; j < b.length; j++) to[i + j] = mod(to[i + j] + (long) a[i] * b[j]);
        }
        return to;
    }

    // From q times c being p, number by number.
    int[] expansion(int[] top, int[] bottom, int n) {
        int[] c = new int[n + 1];
        for (int k = 0; k <= n; k++) {
            int without = at(product(Arrays.copyOf(bottom, Math.min(bottom.length, n + 1)), c), k);
            c[k] = mod((long) mod(at(top, k) - without) * inverse(bottom[0]));
        }
        return c;
    }

    // A share of q(0) = 1 agrees in k numbers just if q times the series less p begins with x^k.
    int agrees(int[] c, int[][] share) {
        int[] left = product(share[1], c);
        int k = 0;
        while (k < c.length && at(left, k) == at(share[0], k)) k++;
        return k;
    }

    int[][] entryOf(int[] c, int l, int m) {
        int[][] rows = new int[m][m + 1];
        for (int i = 0; i < m; i++) {
            for (int j = 0; j <= m; j++) rows[i][j] = at(c, l + 1 + i - j);
        }
        int[] q = solution(rows, m + 1);
        return reduced(Arrays.copyOf(product(q, Arrays.copyOf(c, l + m + 1)), l + 1), q);
    }

    private boolean recurs(int[] c, int r) {
        int n = c.length - 1;
        if (r > n) return true;
        // Unknown q(1) to q(r); the last column is what they must make up for.
        int[][] rows = new int[n - r + 1][r + 1];
        for (int k = r; k <= n; k++) {
            for (int j = 1; j <= r; j++) rows[k - r][j - 1] = at(c, k - j);
            rows[k - r][r] = mod(-(long) c[k]);
        }
        int[][] without = new int[rows.length][];
        for (int i = 0; i < rows.length; i++) without[i] = Arrays.copyOf(rows[i], r);
        return eliminate(rows, r + 1).length == eliminate(without, r).length;
    }

    private int nextStair(int[] c, int[] a, int k) {
        int none = numberOfStairs(a, k, 0);
        int one = numberOfStairs(a, k, 1);
        return mod((long) mod(c[k] - none) * inverse(mod(one - none)));
    }

    // Number k of the series of a(0) to a(k - 1) and this a(k).
    private int numberOfStairs(int[] a, int k, int latestStair) {
        int[] tail = {1};
        for (int i = k; i >= 1; i--) {
            int[] over = {0, i == k ? latestStair : a[i]};
            int[] next = expansion(over, tail, k);
            next[0] = mod(next[0] + (i == 1 ? a[0] : 1));
            tail = next;
        }
        return tail[k];
    }

    // Something other than 0 that all rows make 0; there are fewer rows than columns.
    int[] solution(int[][] rows, int columns) {
        int[] pivots = eliminate(rows, columns);
        boolean[] bound = new boolean[columns];
        for (int column : pivots) bound[column] = true;
        int free = 0;
        while (bound[free]) free++;
        int[] solved = new int[columns];
        solved[free] = 1;
        for (int i = 0; i < pivots.length; i++) solved[pivots[i]] = mod(-(long) rows[i][free]);
        return solved;
    }

    // Rows become those of the reduced echelon form: the columns of its leading ones.
    private int[] eliminate(int[][] rows, int columns) {
        int[] pivots = new int[Math.min(rows.length, columns)];
        int rank = 0;
        for (int column = 0; column < columns && rank < rows.length; column++) {
            int row = rank;
            while (row < rows.length && rows[row][column] == 0) row++;
            if (row == rows.length) continue;
            int[] chosen = rows[row];
            rows[row] = rows[rank];
            rows[rank] = chosen;
            int inverse = inverse(chosen[column]);
            for (int j = 0; j < columns; j++) chosen[j] = mod((long) chosen[j] * inverse);
            for (int[] other : rows) {
                int factor = other[column];
                if (other == chosen || factor == 0) continue;
                for (int j = 0; j < columns; j++) other[j] = mod(other[j] - (long) factor * chosen[j]);
            }
            pivots[rank++] = column;
        }
        return Arrays.copyOf(pivots, rank);
    }

    static int[] trimmed(int[] terms) {
        int n = terms.length;
        while (n > 0 && terms[n - 1] == 0) n--;
        return Arrays.copyOf(terms, n);
    }

    int[][] reduced(int[] top, int[] bottom) {
        int[] a = trimmed(top), b = trimmed(bottom);
        while (b.length > 0) {
            int[] rest = division(a, b)[1];
            a = b;
            b = rest;
        }
        int[][] share = {division(trimmed(top), a)[0], division(trimmed(bottom), a)[0]};
        int low = 0;
        while (share[1][low] == 0) low++;
        int inverse = inverse(share[1][low]);
        for (int[] side : share) {
            for (int k = 0; k < side.length; k++) side[k] = mod((long) side[k] * inverse);
        }
        return share;
    }

    private int[][] division(int[] dividend, int[] divisor) {
        int[] rest = dividend.clone();
        int[] quotient = new int[Math.max(0, dividend.length - divisor.length + 1)];
        int inverse = inverse(divisor[divisor.length - 1]);
        for (int k = quotient.length - 1; k >= 0; k--) {
            quotient[k] = mod((long) rest[k + divisor.length - 1] * inverse);
            for (int j = 0; j < divisor.length; j++) {
                rest[k + j] = mod(rest[k + j] - (long) quotient[k] * divisor[j]);
            }
        }
        return new int[][] {trimmed(quotient), trimmed(rest)};
    }

    // Over whole numbers, every division going up (the way of Bareiss).
    private static BigInteger determinant(BigInteger[][] t) {
        int n = t.length;
        BigInteger before = BigInteger.ONE;
        int sign = 1;
        for (int k = 0; k < n; k++) {
            int row = k;
            while (row < n && t[row][k].signum() == 0) row++;
            if (row == n) return BigInteger.ZERO;
            if (row != k) {
                BigInteger[] swapped = t[row];
                t[row] = t[k];
                t[k] = swapped;
                sign = -sign;
            }
            for (int i = k + 1; i < n; i++) {
                for (int j = k + 1; j < n; j++) {
                    t[i][j] = t[i][j].multiply(t[k][k]).subtract(t[i][k].multiply(t[k][j])).divide(before);
                }
            }
            before = t[k][k];
        }
        return sign > 0 ? before : before.negate();
    }
}
