/** The sentences ahead of the promises ('What it is', 'Terms') that name a boundary, each by itself. */
public final class TermsBoundaryTest {
    private static final Due DUE = new Due("TermsBoundaryTest");

    public static void main(String[] args) {
        residues();
        whateverIntIsTold();
        whateverLongIsOnASheet();
        calls512();
        polynomials();
        tenSeries();
        lengths();
        shares();
        entries();
        worths();
        blocks();
        stairs();
        points();
        result();
        sheets();
        causes();
        refusals();
        DUE.end();
    }

    private static void residues() {
        DUE.about(0, "Shares of series: a series told by its first numbers, and for each pair of degrees the one share of two"
            + " polynomials that agrees with it longest; worths that tell where the table of shares has squares of like ones;"
            + " stairs down the table; shares through points, the only one, or none. ======== 1");
        SharesOfSeries all = new SharesOfSeries();
        Made.series(all, 2, 4, 8, 16);
        DUE.is("the longest", 4, all.entry(0, 0, 1));
        DUE.is("a worth within the square", 0, all.worth(0, 1, 2));
        DUE.is("a stair", 30009, all.stair(0, 2));
        all.point(1, 6);
        DUE.is("the only one", 1, all.join(0, 0));
        DUE.about(0, "All numbers are RESIDUES modulo a prime P (0 to P - 1; 30011 at first)");
        SharesOfSeries x = new SharesOfSeries();
        DUE.is("P", 30011, x.count(0));
        int f = Made.series(x, -30012, -30011, -30010, -1, 0, 1, 30010, 30011, 30012);
        Made.numbers(DUE, "modulo 30011", x, f, 30010, 0, 1, 30010, 0, 1, 30010, 0, 1);
        SharesOfSeries y = Made.modulo(2);
        f = Made.series(y, -3, -2, -1, 0, 1, 2, 3);
        Made.numbers(DUE, "modulo 2", y, f, 1, 0, 1, 0, 1, 0, 1);
    }

    private static void whateverIntIsTold() {
        DUE.about(0, "whatever int is told counts as the RESIDUE that it leaves.");
        for (int p : new int[] {2, 3, 29989, 30011}) {
            int[] told = {Made.LOW, Made.LOW + 1, -p - 1, -p, -p + 1, -1, 0, 1, p - 1, p, p + 1, Made.HIGH - 1, Made.HIGH};
            for (int v : told) oneInt(p, v);
        }
    }

    private static void oneInt(int p, int v) {
        long residue = ((long) v % p + p) % p;
        String what = v + " modulo " + p;
        SharesOfSeries x = Made.modulo(p);
        Made.sheet(x, 0, 2, 0, 1, v);
        x.series(0, 0, 1);
        x.plus(0, 0, v);
        DUE.is("b of plus: 1 and " + what, (1 + residue) % p, x.number(1, 1));
        x.moved(0, v, 0);
        DUE.is("a of moved: " + what, residue, x.number(2, 1));
        x.series(0, 2, 0);
        DUE.is("a number of a SHEET: " + what, residue, x.number(3, 0));
        x.entry(0, 1, 0);
        DUE.is("x of value: " + what, residue, x.value(v));
        x.clear();
        x.lose(0);
        DUE.is("x, y of point: " + what, 1, x.point(v, v));
        DUE.is("as it is kept: " + what, Made.digestOf(p, -1, -1, -1, -1, residue, residue, 1, 0, 0, 1, 1), x.digest());
        DUE.is("the same one again: " + what, 1, x.point((int) residue, (int) residue));
    }

    private static void whateverLongIsOnASheet() {
        for (int p : new int[] {2, 3, 30011}) {
            for (long v : new long[] {Long.MIN_VALUE, Long.MIN_VALUE + 1, Long.MAX_VALUE - 1, Long.MAX_VALUE, -1L << 32, 1L << 32}) {
                SharesOfSeries x = Made.modulo(p);
                Made.sheet(x, 0, 3, v, 1);
                x.series(0, 0, 0);
                x.share(0, 0, 0, 0, 0);
                DUE.is("series of " + v + " modulo " + p, (v % p + p) % p, x.number(0, 0));
                DUE.is("share of " + v + " modulo " + p, (v % p + p) % p, x.number(1, 0));
            }
        }
    }

    private static void calls512() {
        DUE.about(0, "An object is used for at most 512 calls after it has been made; what later calls answer is free.");
        SharesOfSeries x = new SharesOfSeries();
        x.sheet(0, 2, 1);
        for (int k = 1; k <= 170; k++) {
            x.put(0, 2, 0, k);
            DUE.is("series of round " + k, 0, x.series(0, 0, 0));
            DUE.is("clear of round " + k, 1, x.clear());
        }
        DUE.is("call 512", Made.digestOf(30011, 1, 170, -1, -1, -1, -1, 0, 1), x.digest());
        SharesOfSeries y = new SharesOfSeries();
        for (int k = 1; k <= 511; k++) DUE.is("call " + k, Made.NULL, y.lose(0));
        DUE.is("call 512", 511, y.causes(1));
    }

    private static void polynomials() {
        DUE.about(0, "A POLYNOMIAL of DEGREE d has its d + 1 TERMS, that of x^d not being 0");
        SharesOfSeries x = new SharesOfSeries();
        Made.series(x, 4, 5, 30011, 0);
        x.entry(0, 3, 0);
        Made.terms(DUE, "4 and 5 x", x, 0, 4, 5);
        SharesOfSeries y = new SharesOfSeries();
        Made.series(y, Made.behindZeros(40, 6));
        y.entry(0, 40, 0);
        DUE.is("the greatest", 40, y.degree(0));
        DUE.is("its TERM", 6, y.term(0, 40));
        DUE.is("one below", 0, y.term(0, 39));
        DUE.about(0, "the POLYNOMIAL 0 has DEGREE -1.");
        Made.series(x, 0);
        x.entry(1, 0, 0);
        DUE.is("0", -1, x.degree(0));
        DUE.is("no TERM", 0, x.term(0, 0));
    }

    private static void tenSeries() {
        DUE.about(0, "A SERIES (10 at most, numbered as they come)");
        SharesOfSeries x = new SharesOfSeries();
        Made.sheet(x, 0, 2, 1, 1);
        int[] made = {x.series(0, 0, 0), x.share(0, 0, 0, 0, 0), x.unfold(0), x.plus(0, 0, 1), x.times(0, 0), x.under(0),
            x.moved(0, 1, 0), x.series(0, 0, 1), x.series(0, 1, 0), x.series(0, 0, 1)};
        for (int f = 0; f < 10; f++) DUE.is("number of the SERIES", f, made[f]);
        DUE.is("the tenth is there", 1, x.length(9));
        DUE.is("no eleventh", SharesOfSeries.UNKNOWN, x.length(10));
        int[] more = {x.series(0, 0, 0), x.share(0, 0, 0, 0, 0), x.unfold(0), x.plus(0, 0, 1), x.times(0, 0), x.under(0),
            x.moved(0, 1, 0)};
        for (int answer : more) DUE.is("an eleventh", SharesOfSeries.FULL, answer);
        DUE.is("ten", 10, x.count(1));
        x.clear();
        DUE.is("numbered anew", 0, x.series(0, 0, 0));
        DUE.is("and on", 1, x.unfold(0));
    }

    private static void lengths() {
        DUE.about(0, "has NUMBERS c(0) to c(n), n being 0 to 40 (its LENGTH)");
        SharesOfSeries x = new SharesOfSeries();
        x.sheet(0, 2, 60);
        x.put(0, 2, 41, 1);
        int[] shortest = {x.series(0, 0, 0), x.share(0, 40, 0, 0, 0), x.unfold(0)};
        int[] longest = {x.series(0, 19, 40), x.share(0, 40, 0, 18, 40), x.unfold(40)};
        for (int f : shortest) DUE.is("shortest", 0, x.length(f));
        for (int f : longest) DUE.is("longest", 40, x.length(f));
        for (int f : shortest) DUE.is("last of the shortest", 0, x.number(f, 0));
        for (int f : longest) DUE.is("last of the longest", 0, x.number(f, 40));
        for (int n : Made.NO_LENGTHS) {
            DUE.is("series " + n, SharesOfSeries.OUTSIDE, x.series(0, 0, n));
            DUE.is("share " + n, SharesOfSeries.OUTSIDE, x.share(0, 40, 0, 0, n));
            DUE.is("unfold " + n, SharesOfSeries.OUTSIDE, x.unfold(n));
        }
        DUE.about(0, "what is behind them is not known.");
        SharesOfSeries y = new SharesOfSeries();
        Made.series(y, 1, 2, 3, 4, 5);
        y.clear();
        Made.series(y, 7, 8);
        DUE.is("the last", 8, y.number(0, 1));
        DUE.is("behind it", SharesOfSeries.NONE, y.number(0, 2));
        DUE.is("entry", SharesOfSeries.OUTSIDE, y.entry(0, 1, 1));
        DUE.is("agrees in the known ones", 2, y.entry(0, 1, 0));
        DUE.is("worth", SharesOfSeries.OUTSIDE, y.worth(0, 2, 0));
        DUE.is("stair", SharesOfSeries.OUTSIDE, y.stair(0, 2));
    }

    private static void shares() {
        DUE.about(0, "A SHARE is p by q, POLYNOMIALS without a common factor but numbers, q being 1 at 0.");
        SharesOfSeries x = new SharesOfSeries();
        // (2 - 2x)(1 + x) by (2 - 2x)(3 + 5x).
        Made.sheet(x, 0, 2, 2, 0, -2, 6, 4, -10);
        x.share(0, 0, 2, 2, 6);
        DUE.is("agrees", 7, x.entry(0, 2, 2));
        Made.terms(DUE, "p: a third of 1 and x", x, 0, 10004, 10004);
        Made.terms(DUE, "q: 1 and 5 thirds x", x, 1, 1, 5 * 10004 % 30011);
        DUE.about(0, "It AGREES with a SERIES in k NUMBERS, if the first k of the SERIES that p by q is (k at most n + 1) are those.");
        Made.series(x, 0, 1);
        DUE.is("the fewest", 1, x.entry(1, 0, 0));
        Made.series(x, 5);
        DUE.is("all of one", 1, x.entry(2, 0, 0));
        x.unfold(40);
        DUE.is("all of 41", 41, x.entry(3, 0, 0));
        DUE.is("all of 41, and more could be", 41, x.entry(3, 20, 20));
        Made.series(x, 3, 0, 0, 1, 0);
        DUE.is("not those behind a wrong one", 3, x.entry(4, 1, 1));
    }

    private static void entries() {
        DUE.about(0, "THE ENTRY of DEGREES l, m (l + m at most n) is the SHARE that is w p, w q without their common factors, for"
            + " any POLYNOMIALS w p, w q, of DEGREES l and m at most, not both 0, with q times the SERIES less p having no TERM"
            + " of x^0 to x^(l + m)");
        SharesOfSeries x = new SharesOfSeries();
        Made.series(x, 1, 2, 5, 3);
        for (int l = 0; l <= 4; l++) {
            for (int m = 0; m <= 4; m++) {
                DUE.is("pair " + l + " " + m, l + m <= 3 ? 1 : 0, x.entry(0, l, m) > 0 ? 1 : 0);
            }
        }
        x.entry(0, 1, 2);
        // q times the SERIES less p: q = 1 + a x + b x^2 with 5 + 2a + b = 0, 3 + 5a + 2b = 0: a = 7, b = -19.
        Made.terms(DUE, "p of 1, 2", x, 0, 1, 9);
        Made.terms(DUE, "q of 1, 2", x, 1, 1, 7, 30011 - 19);
        DUE.about(0, "there always are such, and all of them make the same SHARE (its p, q have DEGREES of l and m at most; it may"
            + " AGREE in fewer NUMBERS than l + m + 1).");
        Made.series(x, 1, 0, 0, 1);
        DUE.is("fewer by one", 3, x.entry(1, 1, 2));
        Made.series(x, Made.behindZeros(40, 1));
        DUE.is("one below l + m + 1", 40, x.entry(2, 20, 20));
        Made.zeroResult(DUE, "0 by 1", x);
        DUE.is("of x^40: 40, 0", 41, x.entry(2, 40, 0));
        DUE.is("of x^40: 0, 40", 40, x.entry(2, 0, 40));
        Made.series(x, Made.behindZeros(1, 1, 0, 0));
        DUE.is("0, 3 of x agrees in one of four", 1, x.entry(3, 0, 3));
    }

    private static void worths() {
        DUE.about(0, "THE WORTH of l, m (l + m at most n; l, m from 0) is the determinant of the m times m table whose place"
            + " (i, j), from 0, is c(l + i - j), 0 where that is below 0");
        SharesOfSeries x = new SharesOfSeries();
        Made.series(x, 2, 3, 5, 7);
        DUE.is("0, 3: twos on the diagonal, 0 above it", 8, x.worth(0, 0, 3));
        DUE.is("1, 2", 30010, x.worth(0, 1, 2));
        DUE.is("2, 1", 5, x.worth(0, 2, 1));
        DUE.is("0, 1", 2, x.worth(0, 0, 1));
        DUE.is("beyond", SharesOfSeries.OUTSIDE, x.worth(0, 0, 4));
        DUE.is("beyond", SharesOfSeries.OUTSIDE, x.worth(0, 4, 0));
        DUE.is("beyond", SharesOfSeries.OUTSIDE, x.worth(0, 2, 2));
        DUE.is("l below 0", SharesOfSeries.OUTSIDE, x.worth(0, -1, 1));
        DUE.is("m below 0", SharesOfSeries.OUTSIDE, x.worth(0, 1, -1));
        Made.series(x, Made.behindZeros(40, 1));
        SharesOfSeries y = new SharesOfSeries();
        long[] one = new long[41];
        one[0] = -1;
        Made.series(y, one);
        DUE.is("the greatest table, -1 forty times", 1, y.worth(0, 0, 40));
        DUE.is("-1 thirty-nine times", 30010, y.worth(0, 0, 39));
        DUE.about(0, "1, if m is 0.");
        for (int l = 0; l <= 40; l++) DUE.is("0 at " + l, 1, x.worth(1, l, 0));
        SharesOfSeries two = Made.modulo(2);
        Made.series(two, 0);
        DUE.is("modulo 2", 1, two.worth(0, 0, 0));
    }

    private static void blocks() {
        DUE.about(0, "THE BLOCK of DEGREES l, m is the square of all pairs whose ENTRY is that of l, m (as far as a SERIES with all"
            + " NUMBERS known has them)");
        SharesOfSeries x = new SharesOfSeries();
        Made.series(x, 1, 0, 0, 1);
        for (int[] pair : new int[][] {{0, 0}, {0, 2}, {2, 0}, {1, 2}, {2, 1}}) {
            DUE.is("2, 2 is within it and beyond the table", 3, x.block(0, pair[0], pair[1], 2));
        }
        DUE.is("3, 0 is outside", 3, x.block(0, 3, 0, 0));
        DUE.is("0, 3 is outside", 3, x.block(0, 0, 3, 1));
        DUE.about(0, "its least pair has the DEGREES of p and q of that ENTRY, its SIDE is k + 1, if the ENTRY AGREES in so many"
            + " NUMBERS as the two DEGREES and k and 1 together");
        long[] told = new long[41];
        told[0] = 1;
        for (int side = 1; side <= 40; side++) {
            SharesOfSeries y = new SharesOfSeries();
            Made.sheet(y, 0, 2, told);
            y.put(0, 2, side, 1);
            y.series(0, 0, 40);
            DUE.is("1 and x^" + side, side, y.block(0, 0, 0, 2));
            DUE.is("least l", 0, y.block(0, 0, 0, 0));
            DUE.is("least m", 0, y.block(0, 0, 0, 1));
        }
        // 2 x^2 by (1 - x), and then another: k is 6 - 2 - 1 - 1.
        Made.series(x, 0, 0, 2, 2, 2, 2, 9);
        DUE.is("least l", 2, x.block(1, 3, 2, 0));
        DUE.is("least m", 1, x.block(1, 3, 2, 1));
        DUE.is("SIDE", 3, x.block(1, 3, 2, 2));
        DUE.about(0, "if it AGREES in all n + 1 that are given: NONE is told for the SIDE.");
        Made.series(x, 0, 0, 2, 2, 2, 2);
        DUE.is("NONE", SharesOfSeries.NONE, x.block(2, 3, 2, 2));
        DUE.is("least l", 2, x.block(2, 3, 2, 0));
        DUE.is("least m", 1, x.block(2, 3, 2, 1));
        Made.series(x, 4);
        DUE.is("of one NUMBER", SharesOfSeries.NONE, x.block(3, 0, 0, 2));
        DUE.is("no CAUSE", 0, x.cause());
        DUE.about(0, "(The ENTRY 0 by 1 has no BLOCK.)");
        Made.series(x, 0);
        for (int what = 0; what <= 2; what++) DUE.is("0", Made.ZERO, x.block(4, 0, 0, what));
        for (int what = 0; what <= 2; what++) DUE.is("0 below 2 x^2", Made.ZERO, x.block(2, 1, 4, what));
    }

    private static void stairs() {
        DUE.about(0, "STAIRS: a(0) is c(0); the SERIES less a(0) is a(1) x by (1 and a(2) x by (1 and a(3) x by ..)): a(k) is told"
            + " as long as a(1) to a(k - 1) are not 0.");
        SharesOfSeries x = new SharesOfSeries();
        Made.series(x, 0, 2, 2, 2, 2);
        DUE.is("a(0) may be 0", 0, x.stair(0, 0));
        DUE.is("a(1)", 2, x.stair(0, 1));
        DUE.is("a(2)", 30010, x.stair(0, 2));
        DUE.is("a(3) is 0, and told", 0, x.stair(0, 3));
        DUE.is("a(4) is not", Made.ZERO, x.stair(0, 4));
        Made.series(x, 9, 0, 0);
        DUE.is("a(1) is 0, and told", 0, x.stair(1, 1));
        DUE.is("a(2) is not", Made.ZERO, x.stair(1, 2));
    }

    private static void points() {
        DUE.about(0, "======== 2 POINTS (20 at most): x, y, no two x alike.");
        SharesOfSeries x = Made.twentyPoints();
        DUE.is("twenty", 20, x.count(2));
        DUE.is("a twenty-first", SharesOfSeries.FULL, x.point(20, 400));
        DUE.is("two x alike", SharesOfSeries.STATE, x.point(19, 0));
        DUE.is("two x alike as RESIDUES", SharesOfSeries.STATE, x.point(19 - 30011, 0));
        DUE.about(0, "A SHARE goes THROUGH one, if q is not 0 there, and p by q is y.");
        // Only 1 - x by 1 - x, or so, has p = y q at all three.
        SharesOfSeries y = new SharesOfSeries();
        y.point(1, 5);
        y.point(0, 1);
        y.point(2, 1);
        DUE.is("q is 0 at one of them", 0, y.join(1, 1));
        DUE.is("a parabola goes", 1, y.join(2, 0));
        DUE.is("by y", 5, y.value(1));
    }

    private static void result() {
        DUE.about(0, "THE RESULT is a SHARE, 0 by 1 at first.");
        SharesOfSeries x = new SharesOfSeries();
        Made.zeroResult(DUE, "at first", x);
        DUE.is("its value", 0, x.value(0));
        DUE.is("its SERIES", 0, x.unfold(1));
        Made.numbers(DUE, "its SERIES", x, 0, 0, 0);
    }

    private static void sheets() {
        DUE.about(0, "SHEETS 0 to 3 are LOST (at first), or rows of a LANE (0 byte, 1 short, 2 int, 3 long) of 0 to 60 numbers.");
        SharesOfSeries x = new SharesOfSeries();
        for (int s = 0; s <= 3; s++) DUE.is("LOST at first", Made.NULL, x.lose(s));
        for (int s = 0; s <= 3; s++) DUE.is("SHEET " + s, s * 20, x.sheet(s, s, s * 20));
        for (int s : Made.NO_SHEETS) DUE.is("SHEET " + s, SharesOfSeries.UNKNOWN, x.sheet(s, 0, 1));
        for (int lane : Made.NO_LANES) DUE.is("LANE " + lane, SharesOfSeries.OUTSIDE, x.sheet(0, lane, 1));
        DUE.is("61 numbers", SharesOfSeries.OUTSIDE, x.sheet(0, 0, 61));
        DUE.is("-1 numbers", Made.SIZE, x.sheet(0, 0, -1));
        long[] cast = {(byte) 0x81, (short) 0x8182, 0x81828384, 0x8182838485868788L};
        long[] told = {0x8182838485868781L, 0x8182838485868182L, 0x8182838481828384L, 0x8182838485868788L};
        for (int lane = 0; lane <= 3; lane++) {
            x.sheet(0, lane, 1);
            x.sheet(1, 0, 0);
            x.sheet(2, 0, 0);
            x.sheet(3, 0, 0);
            x.put(0, lane, 0, told[lane]);
            DUE.is("LANE " + lane, Made.digestOf(30011, 1, cast[lane], 0, 0, 0, -1, 0, 1), x.digest());
        }
    }

    private static void causes() {
        DUE.about(0, "CAUSES, answered as -10 less them: 1 NULL (a SHEET is LOST), 2 INDEX (no such place), 3 SIZE (below 0),"
            + " 4 CAST (another LANE), 5 ZERO (something has to be 1 by 0).");
        SharesOfSeries x = new SharesOfSeries();
        DUE.is("NULL", -11, x.put(0, 2, 0, 1));
        x.sheet(0, 2, 2);
        DUE.is("INDEX", -12, x.put(0, 2, 2, 1));
        DUE.is("SIZE", -13, x.sheet(0, 2, -1));
        DUE.is("CAST", -14, x.put(0, 3, 0, 1));
        DUE.is("ZERO", -15, x.share(0, 0, 0, 0, 0));
    }

    private static void refusals() {
        DUE.about(0, "Refusals, ahead of CAUSES: UNKNOWN (a number names nothing), OUTSIDE (it is not as told), STATE, FULL.");
        SharesOfSeries x = new SharesOfSeries();
        DUE.is("UNKNOWN ahead of SIZE", SharesOfSeries.UNKNOWN, x.sheet(4, 0, -1));
        DUE.is("OUTSIDE ahead of SIZE", SharesOfSeries.OUTSIDE, x.sheet(0, 4, -1));
        DUE.is("UNKNOWN ahead of NULL", SharesOfSeries.UNKNOWN, x.copy(0, 0, 4, 0, 1));
        DUE.is("OUTSIDE ahead of NULL", SharesOfSeries.OUTSIDE, x.series(0, 0, 41));
        x.point(1, 1);
        DUE.is("STATE", SharesOfSeries.STATE, x.prime(3));
        DUE.is("STATE", SharesOfSeries.STATE, x.point(1, 0));
        DUE.is("FULL", SharesOfSeries.FULL, Made.twentyPoints().point(20, 0));
        DUE.is("no CAUSE", 0, x.cause());
    }
}
