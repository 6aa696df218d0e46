/** Every sentence of promises 7 to 16 by itself, at its boundaries. */
public final class SeriesBoundaryTest {
    private static final Due DUE = new Due("SeriesBoundaryTest");

    public static void main(String[] args) {
        series();
        seriesRefused();
        share();
        shareRefused();
        shareByZero();
        unfold();
        unfoldRefused();
        plus();
        times();
        under();
        moved();
        number();
        length();
        clear();
        DUE.end();
    }

    private static void series() {
        DUE.about(7, "A SERIES of LENGTH n from n + 1 numbers of a SHEET from i on: its number.");
        SharesOfSeries x = new SharesOfSeries();
        Made.sheet(x, 3, 2, 10, 11, 12, 13);
        DUE.is("the least", 0, x.series(3, 0, 0));
        Made.numbers(DUE, "the least", x, 0, 10);
        DUE.is("the last number", 1, x.series(3, 3, 0));
        Made.numbers(DUE, "the last number", x, 1, 13);
        DUE.is("all", 2, x.series(3, 0, 3));
        Made.numbers(DUE, "all", x, 2, 10, 11, 12, 13);
        DUE.is("all but the first", 3, x.series(3, 1, 2));
        Made.numbers(DUE, "all but the first", x, 3, 11, 12, 13);
        long[] sixty = new long[60];
        for (int i = 0; i < 60; i++) sixty[i] = i - 100;
        Made.sheet(x, 0, 0, sixty);
        DUE.is("the first 41 of 60", 4, x.series(0, 0, 40));
        DUE.is("the last 41 of 60", 5, x.series(0, 19, 40));
        for (int k = 0; k <= 40; k++) {
            DUE.is("first, number " + k, 30011 - 100 + k, x.number(4, k));
            DUE.is("last, number " + k, 30011 - 81 + k, x.number(5, k));
        }
    }

    private static void seriesRefused() {
        SharesOfSeries x = new SharesOfSeries();
        x.sheet(0, 2, 3);
        x.sheet(1, 2, 0);
        x.sheet(2, 0, 60);
        DUE.about(7, "UNKNOWN");
        for (int s : Made.NO_SHEETS) DUE.is("SHEET " + s, SharesOfSeries.UNKNOWN, x.series(s, 0, 0));
        DUE.about(7, "OUTSIDE: n is not 0 to 40");
        for (int n : Made.NO_LENGTHS) DUE.is("n " + n, SharesOfSeries.OUTSIDE, x.series(2, 0, n));
        DUE.is("no CAUSE", 0, x.cause());
        DUE.about(7, "NULL");
        DUE.is("LOST", Made.NULL, x.series(3, 0, 0));
        DUE.about(7, "INDEX");
        int[][] wrong = {{0, -1, 0}, {0, 3, 0}, {0, 0, 3}, {0, 1, 2}, {0, 2, 1}, {0, -1, 2}, {1, 0, 0}, {1, -1, 0}, {2, 20, 40},
            {2, 60, 0}, {2, -1, 40}, {0, Made.HIGH, 0}, {0, Made.HIGH, 40}, {0, Made.HIGH - 40, 40}, {0, Made.LOW, 0},
            {0, Made.LOW, 40}};
        for (int[] w : wrong) DUE.is("series " + w[0] + " " + w[1] + " " + w[2], Made.INDEX, x.series(w[0], w[1], w[2]));
        DUE.is("no SERIES", 0, x.count(1));
        DUE.about(7, "FULL.");
        SharesOfSeries full = Made.full();
        DUE.is("ten are there", SharesOfSeries.FULL, full.series(0, 0, 0));
        full.clear();
        DUE.is("none are", 0, full.series(0, 0, 0));
    }

    private static void share() {
        DUE.about(8, "The SERIES of LENGTH n of a share: p from l + 1 numbers of a SHEET from place i on, q from the m + 1 behind"
            + " these: its number.");
        SharesOfSeries x = new SharesOfSeries();
        Made.sheet(x, 0, 2, 6, 3, -3);
        DUE.is("a number by a number, n 0", 0, x.share(0, 0, 0, 0, 0));
        Made.numbers(DUE, "6 by 3", x, 0, 2);
        DUE.is("nothing behind q is taken", 1, x.share(0, 0, 0, 0, 1));
        Made.numbers(DUE, "6 by 3 of LENGTH 1", x, 1, 2, 0);
        x.clear();
        x.share(0, 0, 0, 0, 0);
        DUE.is("the last two numbers", 1, x.share(0, 1, 0, 0, 2));
        Made.numbers(DUE, "3 by -3", x, 1, 30010, 0, 0);
        DUE.is("all three, m 1", 2, x.share(0, 0, 0, 1, 2));
        Made.numbers(DUE, "6 by 3 - 3x", x, 2, 2, 2, 2);
        DUE.is("all three, l 1", 3, x.share(0, 0, 1, 0, 2));
        Made.numbers(DUE, "6 + 3x by -3", x, 3, 30009, 30010, 0);
        // x^40 by 1 - x^18: the greatest l; then 1 by 1 - x^40: the greatest m.
        x.sheet(1, 0, 60);
        x.put(1, 0, 40, 1);
        x.put(1, 0, 41, 1);
        x.put(1, 0, 59, -1);
        DUE.is("l 40", 4, x.share(1, 0, 40, 18, 40));
        for (int k = 0; k <= 40; k++) DUE.is("x^40, number " + k, k == 40 ? 1 : 0, x.number(4, k));
        x.sheet(1, 0, 60);
        x.put(1, 0, 0, 1);
        x.put(1, 0, 19, 1);
        x.put(1, 0, 59, -1);
        DUE.is("m 40", 5, x.share(1, 0, 18, 40, 40));
        for (int k = 0; k <= 40; k++) DUE.is("1 by 1 - x^40, number " + k, k % 40 == 0 ? 1 : 0, x.number(5, k));
        DUE.is("p, q longer than n", 6, x.share(1, 0, 18, 40, 0));
        Made.numbers(DUE, "p, q longer than n", x, 6, 1);
        DUE.is("p is 0", 7, x.share(1, 1, 17, 40, 3));
        Made.numbers(DUE, "p is 0", x, 7, 0, 0, 0, 0);
        Made.sheet(x, 2, 3, 1, -1, 1, -1);
        DUE.is("p is q", 8, x.share(2, 0, 1, 1, 3));
        Made.numbers(DUE, "p is q", x, 8, 1, 0, 0, 0);
        Made.zeroResult(DUE, "THE RESULT stays", x);
    }

    private static void shareRefused() {
        SharesOfSeries x = new SharesOfSeries();
        Made.sheet(x, 0, 2, 1, 1, 1, 1);
        x.sheet(1, 2, 1);
        x.sheet(2, 2, 0);
        DUE.about(8, "UNKNOWN");
        for (int s : Made.NO_SHEETS) DUE.is("SHEET " + s, SharesOfSeries.UNKNOWN, x.share(s, 0, 0, 0, 0));
        DUE.about(8, "OUTSIDE: l, m, n are not 0 to 40");
        for (int n : Made.NO_LENGTHS) {
            DUE.is("l " + n, SharesOfSeries.OUTSIDE, x.share(0, 0, n, 0, 0));
            DUE.is("m " + n, SharesOfSeries.OUTSIDE, x.share(0, 0, 0, n, 0));
            DUE.is("n " + n, SharesOfSeries.OUTSIDE, x.share(0, 0, 0, 0, n));
        }
        DUE.is("no CAUSE", 0, x.cause());
        DUE.about(8, "NULL");
        DUE.is("LOST", Made.NULL, x.share(3, 0, 0, 0, 0));
        DUE.is("counted", 1, x.causes(1));
        DUE.about(8, "INDEX");
        int[][] wrong = {{0, -1, 0, 0}, {0, 3, 0, 0}, {0, 4, 0, 0}, {0, 2, 1, 0}, {0, 2, 0, 1}, {0, 0, 3, 0}, {0, 0, 0, 3},
            {0, 0, 1, 2}, {0, 1, 1, 1}, {0, 0, 40, 40}, {1, 0, 0, 0}, {2, 0, 0, 0}, {0, Made.HIGH, 0, 0},
            {0, Made.HIGH, 40, 40}, {0, Made.HIGH - 1, 0, 0}, {0, Made.LOW, 0, 0}, {0, Made.LOW, 40, 40}};
        for (int[] w : wrong) {
            DUE.is("share " + w[0] + " " + w[1] + " " + w[2] + " " + w[3], Made.INDEX, x.share(w[0], w[1], w[2], w[3], 3));
        }
        DUE.is("no SERIES", 0, x.count(1));
        DUE.is("just enough places", 0, x.share(0, 0, 1, 1, 40));
    }

    private static void shareByZero() {
        DUE.about(8, "ZERO: q is 0 at 0");
        SharesOfSeries x = new SharesOfSeries();
        Made.sheet(x, 0, 3, 1, 0, 5, -30011, 30011L * 30011, Long.MAX_VALUE - Long.MAX_VALUE % 30011, 30010);
        DUE.is("q is x", Made.ZERO, x.share(0, 0, 0, 1, 4));
        DUE.is("q is 0", Made.ZERO, x.share(0, 0, 0, 0, 4));
        for (int i = 3; i <= 5; i++) DUE.is("q is a multiple of P at 0", Made.ZERO, x.share(0, 0, i - 1, 1, 0));
        DUE.is("P - 1 is not 0", 0, x.share(0, 0, 5, 0, 0));
        DUE.is("causes", 5, x.causes(5));
        SharesOfSeries two = Made.modulo(2);
        Made.sheet(two, 0, 0, 1, 2, 3);
        DUE.is("2 modulo 2", Made.ZERO, two.share(0, 0, 0, 1, 0));
        DUE.is("3 modulo 2", 0, two.share(0, 0, 1, 0, 0));
        DUE.about(8, "FULL.");
        SharesOfSeries full = Made.full();
        DUE.is("ten are there", SharesOfSeries.FULL, full.share(0, 0, 0, 0, 0));
        full.clear();
        DUE.is("none are", 0, full.share(0, 0, 0, 0, 0));
    }

    private static void unfold() {
        DUE.about(9, "The SERIES that THE RESULT is, of LENGTH n (0 to 40): its number.");
        SharesOfSeries x = new SharesOfSeries();
        Made.series(x, 3, 6);
        x.entry(0, 0, 1);
        DUE.is("the least", 1, x.unfold(0));
        Made.numbers(DUE, "3 by 1 - 2x", x, 1, 3);
        DUE.is("the greatest", 2, x.unfold(40));
        long want = 3;
        for (int k = 0; k <= 40; k++) {
            DUE.is("number " + k, want, x.number(2, k));
            want = want * 2 % 30011;
        }
        DUE.is("no more", SharesOfSeries.NONE, x.number(2, 41));
        Made.terms(DUE, "THE RESULT stays", x, 1, 1, 30009);
        SharesOfSeries long40 = new SharesOfSeries();
        Made.series(long40, Made.behindZeros(40, 7));
        long40.entry(0, 40, 0);
        DUE.is("shorter than p", 1, long40.unfold(1));
        Made.numbers(DUE, "shorter than p", long40, 1, 0, 0);
        DUE.is("as long as p", 2, long40.unfold(40));
        DUE.is("its last", 7, long40.number(2, 40));
    }

    private static void unfoldRefused() {
        DUE.about(9, "OUTSIDE: n");
        SharesOfSeries x = new SharesOfSeries();
        for (int n : Made.NO_LENGTHS) DUE.is("n " + n, SharesOfSeries.OUTSIDE, x.unfold(n));
        DUE.about(9, "ZERO: q is 0 at 0");
        SharesOfSeries pole = Made.pole(3);
        DUE.is("1 by x", Made.ZERO, pole.unfold(0));
        DUE.is("1 by x", Made.ZERO, pole.unfold(40));
        DUE.is("causes", 2, pole.causes(5));
        DUE.is("no SERIES", 0, pole.count(1));
        DUE.about(9, "FULL.");
        SharesOfSeries full = Made.full();
        DUE.is("ten are there", SharesOfSeries.FULL, full.unfold(0));
        full.clear();
        DUE.is("none are", 0, full.unfold(0));
    }

    private static void plus() {
        DUE.about(10, "The sum of f and b times g, of the lesser LENGTH: a SERIES' number.");
        SharesOfSeries x = new SharesOfSeries();
        Made.series(x, 30010, 30010, 30010);
        Made.series(x, 30010);
        DUE.is("b 1", 2, x.plus(0, 0, 1));
        Made.numbers(DUE, "b 1", x, 2, 30009, 30009, 30009);
        DUE.is("b 0", 3, x.plus(0, 0, 0));
        Made.numbers(DUE, "b 0", x, 3, 30010, 30010, 30010);
        DUE.is("b -1", 4, x.plus(0, 0, -1));
        Made.numbers(DUE, "b -1", x, 4, 0, 0, 0);
        DUE.is("g of LENGTH 0", 5, x.plus(0, 1, 30010));
        Made.numbers(DUE, "g of LENGTH 0", x, 5, 0);
        DUE.is("f of LENGTH 0", 6, x.plus(1, 0, 30011));
        Made.numbers(DUE, "f of LENGTH 0", x, 6, 30010);
        x.unfold(40);
        DUE.is("40 and 40", 8, x.plus(7, 7, Made.HIGH));
        DUE.is("LENGTH 40", 40, x.length(8));
        DUE.is("the tenth", 9, x.plus(7, 0, 1));
        DUE.is("the lesser LENGTH", 2, x.length(9));
        DUE.about(10, "UNKNOWN: f, g");
        SharesOfSeries y = new SharesOfSeries();
        DUE.is("none yet", SharesOfSeries.UNKNOWN, y.plus(0, 0, 1));
        Made.series(y, 1);
        for (int no : noSeriesOf(1)) {
            DUE.is("f " + no, SharesOfSeries.UNKNOWN, y.plus(no, 0, 1));
            DUE.is("g " + no, SharesOfSeries.UNKNOWN, y.plus(0, no, 1));
        }
        DUE.about(10, "FULL.");
        SharesOfSeries full = Made.full();
        DUE.is("ten are there", SharesOfSeries.FULL, full.plus(0, 9, 1));
        DUE.is("the tenth is known", 2, full.length(9));
    }

    private static int[] noSeriesOf(int known) {
        return new int[] {-1, known, known + 1, 9, 10, Made.LOW, Made.HIGH};
    }

    private static void times() {
        DUE.about(11, "f times g, likewise.");
        SharesOfSeries x = new SharesOfSeries();
        long[] highest = new long[41];
        java.util.Arrays.fill(highest, -1);
        Made.series(x, highest);
        DUE.is("41 of P - 1", 1, x.times(0, 0));
        for (int k = 0; k <= 40; k++) DUE.is("number " + k, k + 1, x.number(1, k));
        Made.series(x, 2);
        DUE.is("g of LENGTH 0", 3, x.times(0, 2));
        Made.numbers(DUE, "g of LENGTH 0", x, 3, 30009);
        DUE.is("f of LENGTH 0", 4, x.times(2, 0));
        Made.numbers(DUE, "f of LENGTH 0", x, 4, 30009);
        DUE.about(11, "UNKNOWN");
        SharesOfSeries y = new SharesOfSeries();
        DUE.is("none yet", SharesOfSeries.UNKNOWN, y.times(0, 0));
        Made.series(y, 1);
        for (int no : noSeriesOf(1)) {
            DUE.is("f " + no, SharesOfSeries.UNKNOWN, y.times(no, 0));
            DUE.is("g " + no, SharesOfSeries.UNKNOWN, y.times(0, no));
        }
        DUE.about(11, "FULL.");
        DUE.is("ten are there", SharesOfSeries.FULL, Made.full().times(9, 0));
    }

    private static void under() {
        DUE.about(12, "1 by f, of its LENGTH.");
        SharesOfSeries x = new SharesOfSeries();
        Made.series(x, -1);
        DUE.is("of LENGTH 0", 1, x.under(0));
        Made.numbers(DUE, "1 by -1", x, 1, 30010);
        long[] all = new long[41];
        java.util.Arrays.fill(all, 1);
        Made.series(x, all);
        DUE.is("of LENGTH 40", 3, x.under(2));
        DUE.is("LENGTH", 40, x.length(3));
        for (int k = 0; k <= 40; k++) DUE.is("1 - x, number " + k, k == 0 ? 1 : k == 1 ? 30010 : 0, x.number(3, k));
        SharesOfSeries two = Made.modulo(2);
        Made.series(two, 1, 1, 0);
        two.under(0);
        Made.numbers(DUE, "modulo 2", two, 1, 1, 1, 1);
        DUE.about(12, "UNKNOWN");
        SharesOfSeries y = new SharesOfSeries();
        DUE.is("none yet", SharesOfSeries.UNKNOWN, y.under(0));
        Made.series(y, 1);
        for (int no : noSeriesOf(1)) DUE.is("f " + no, SharesOfSeries.UNKNOWN, y.under(no));
        DUE.about(12, "ZERO: c(0) is 0");
        Made.series(y, 0, 1);
        Made.series(y, -30011);
        DUE.is("0, 1", Made.ZERO, y.under(1));
        DUE.is("-P", Made.ZERO, y.under(2));
        DUE.is("no SERIES more", 3, y.count(1));
        DUE.about(12, "FULL.");
        DUE.is("ten are there", SharesOfSeries.FULL, Made.full().under(0));
    }

    private static void moved() {
        DUE.about(13, "f of a x, and x^k times that (k 0 to 40), of its LENGTH.");
        SharesOfSeries x = new SharesOfSeries();
        long[] all = new long[41];
        java.util.Arrays.fill(all, 1);
        Made.series(x, all);
        DUE.is("a 2, k 0", 1, x.moved(0, 2, 0));
        long power = 1;
        for (int k = 0; k <= 40; k++) {
            DUE.is("number " + k, power, x.number(1, k));
            power = power * 2 % 30011;
        }
        DUE.is("k 40", 2, x.moved(0, 5, 40));
        for (int k = 0; k <= 40; k++) DUE.is("x^40, number " + k, k == 40 ? 1 : 0, x.number(2, k));
        DUE.is("a 0: c(0) stays", 3, x.moved(0, 0, 1));
        for (int k = 0; k <= 40; k++) DUE.is("x, number " + k, k == 1 ? 1 : 0, x.number(3, k));
        Made.series(x, 7);
        DUE.is("LENGTH 0, k 0", 5, x.moved(4, 0, 0));
        Made.numbers(DUE, "LENGTH 0, k 0", x, 5, 7);
        DUE.is("LENGTH 0, k 1", 6, x.moved(4, 1, 1));
        Made.numbers(DUE, "LENGTH 0, k 1", x, 6, 0);
        DUE.is("LENGTH 0, k 40", 7, x.moved(4, 1, 40));
        Made.numbers(DUE, "LENGTH 0, k 40", x, 7, 0);
        SharesOfSeries again = new SharesOfSeries();
        Made.series(again, 3, 3, 3);
        Made.series(again, 8, 8, 8);
        again.clear();
        Made.series(again, 3, 3, 3);
        again.moved(0, 1, 2);
        Made.numbers(DUE, "where another SERIES was", again, 1, 0, 0, 3);
        DUE.about(13, "UNKNOWN");
        SharesOfSeries y = new SharesOfSeries();
        DUE.is("none yet", SharesOfSeries.UNKNOWN, y.moved(0, 1, 0));
        Made.series(y, 1);
        for (int no : noSeriesOf(1)) DUE.is("f " + no, SharesOfSeries.UNKNOWN, y.moved(no, 1, 0));
        DUE.about(13, "OUTSIDE: k");
        for (int k : Made.NO_LENGTHS) DUE.is("k " + k, SharesOfSeries.OUTSIDE, y.moved(0, 1, k));
        DUE.about(13, "FULL.");
        DUE.is("ten are there", SharesOfSeries.FULL, Made.full().moved(9, 1, 0));
    }

    private static void number() {
        DUE.about(14, "NUMBER k; NONE: it is not known.");
        SharesOfSeries x = new SharesOfSeries();
        x.unfold(40);
        Made.series(x, -1);
        DUE.is("0 of LENGTH 40", 0, x.number(0, 0));
        DUE.is("40 of LENGTH 40", 0, x.number(0, 40));
        DUE.is("0 of LENGTH 0", 30010, x.number(1, 0));
        for (int k : new int[] {-1, 41, 42, 43, Made.LOW, Made.HIGH}) DUE.is(k + " of LENGTH 40", SharesOfSeries.NONE, x.number(0, k));
        for (int k : new int[] {-1, 1, 40, Made.LOW, Made.HIGH}) DUE.is(k + " of LENGTH 0", SharesOfSeries.NONE, x.number(1, k));
        DUE.is("no CAUSE", 0, x.cause());
        DUE.about(14, "UNKNOWN.");
        DUE.is("none yet", SharesOfSeries.UNKNOWN, new SharesOfSeries().number(0, 0));
        for (int no : noSeriesOf(2)) DUE.is("f " + no, SharesOfSeries.UNKNOWN, x.number(no, 0));
        DUE.is("10 of ten", SharesOfSeries.UNKNOWN, Made.full().number(10, 0));
        DUE.is("9 of ten", 1, Made.full().number(9, 1));
    }

    private static void length() {
        DUE.about(15, "LENGTH.");
        SharesOfSeries x = new SharesOfSeries();
        x.unfold(0);
        x.unfold(40);
        DUE.is("the least", 0, x.length(0));
        DUE.is("the greatest", 40, x.length(1));
        DUE.about(15, "UNKNOWN.");
        DUE.is("none yet", SharesOfSeries.UNKNOWN, new SharesOfSeries().length(0));
        for (int no : noSeriesOf(2)) DUE.is("f " + no, SharesOfSeries.UNKNOWN, x.length(no));
        DUE.is("10 of ten", SharesOfSeries.UNKNOWN, Made.full().length(10));
        DUE.is("9 of ten", 2, Made.full().length(9));
    }

    private static void clear() {
        DUE.about(16, "All SERIES are gone: how many there were.");
        SharesOfSeries x = new SharesOfSeries();
        DUE.is("none", 0, x.clear());
        x.unfold(0);
        DUE.is("one", 1, x.clear());
        DUE.is("none again", 0, x.clear());
        DUE.is("gone", SharesOfSeries.UNKNOWN, x.length(0));
        SharesOfSeries full = Made.full();
        DUE.is("ten", 10, full.clear());
        for (int f = 0; f < 10; f++) DUE.is("gone " + f, SharesOfSeries.UNKNOWN, full.length(f));
        for (int f = 0; f < 10; f++) DUE.is("ten anew", f, full.unfold(0));
        DUE.is("and no more", SharesOfSeries.FULL, full.unfold(0));
    }
}
