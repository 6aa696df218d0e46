/** "Of several the first as a call tells them": every two refusals or CAUSES of a call that can hold at once. */
public final class OrderTest {
    private static final Due DUE = new Due("OrderTest");
    private static final int UNKNOWN = SharesOfSeries.UNKNOWN, OUTSIDE = SharesOfSeries.OUTSIDE;
    private static final int STATE = SharesOfSeries.STATE, FULL = SharesOfSeries.FULL;
    private static final int NULL = Made.NULL, INDEX = Made.INDEX, SIZE = Made.SIZE, CAST = Made.CAST, ZERO = Made.ZERO;

    public static void main(String[] args) {
        DUE.about(0, "Of several the first as a call tells them");
        prime();
        sheet();
        put();
        copy();
        series();
        share();
        unfold();
        seriesOfSeries();
        table();
        points();
        told();
        DUE.end();
    }

    // ---- SHEET 0: ints 1 1 0, SHEET 1: shorts 1 1 0, SHEET 2: an empty row of bytes, SHEET 3: LOST, once a row of longs.

    private static SharesOfSeries withSheets() {
        SharesOfSeries x = new SharesOfSeries();
        Made.sheet(x, 0, 2, 1, 1, 0);
        Made.sheet(x, 1, 1, 1, 1, 0);
        x.sheet(2, 0, 0);
        Made.sheet(x, 3, 3, 1, 1, 0);
        x.lose(3);
        return x;
    }

    /** The same SHEETS and ten SERIES: 1, then 0 1 nine times. */
    private static SharesOfSeries fullWithSheets() {
        SharesOfSeries x = withSheets();
        x.series(0, 0, 0);
        x.sheet(2, 2, 2);
        x.put(2, 2, 1, 1);
        for (int f = 1; f < 10; f++) x.series(2, 0, 1);
        x.sheet(2, 0, 0);
        return x;
    }

    private static void prime() {
        SharesOfSeries x = new SharesOfSeries();
        x.unfold(0);
        DUE.is("prime: OUTSIDE, STATE by a SERIES", OUTSIDE, x.prime(30012));
        x.point(0, 0);
        DUE.is("prime: OUTSIDE, STATE by both", OUTSIDE, x.prime(1));
        x.clear();
        DUE.is("prime: OUTSIDE, STATE by a POINT", OUTSIDE, x.prime(4));
    }

    private static void sheet() {
        SharesOfSeries x = withSheets();
        DUE.is("sheet: UNKNOWN, OUTSIDE by LANE", UNKNOWN, x.sheet(4, 4, 0));
        DUE.is("sheet: UNKNOWN, OUTSIDE by n", UNKNOWN, x.sheet(-1, 0, 61));
        DUE.is("sheet: UNKNOWN, SIZE", UNKNOWN, x.sheet(4, 0, -1));
        DUE.is("sheet: UNKNOWN, OUTSIDE, SIZE", UNKNOWN, x.sheet(4, 4, -1));
        DUE.is("sheet: OUTSIDE by LANE, SIZE", OUTSIDE, x.sheet(0, 4, -1));
        DUE.is("sheet: OUTSIDE by LANE, SIZE", OUTSIDE, x.sheet(3, -1, Made.LOW));
        DUE.is("sheet: OUTSIDE twice", OUTSIDE, x.sheet(0, 4, 61));
        DUE.is("sheet: no CAUSE", 0, x.cause());
        DUE.is("sheet: SIZE alone", SIZE, x.sheet(0, 3, -1));
    }

    private static void put() {
        SharesOfSeries x = withSheets();
        DUE.is("put: UNKNOWN, OUTSIDE", UNKNOWN, x.put(4, 4, 0, 1));
        DUE.is("put: UNKNOWN, INDEX", UNKNOWN, x.put(4, 2, -1, 1));
        DUE.is("put: UNKNOWN, OUTSIDE, INDEX", UNKNOWN, x.put(-1, -1, 60, 1));
        DUE.is("put: OUTSIDE, NULL", OUTSIDE, x.put(3, 4, 0, 1));
        DUE.is("put: OUTSIDE, CAST", OUTSIDE, x.put(0, 4, 0, 1));
        DUE.is("put: OUTSIDE, CAST, INDEX", OUTSIDE, x.put(0, -1, 3, 1));
        DUE.is("put: OUTSIDE, NULL, INDEX", OUTSIDE, x.put(3, -1, 3, 1));
        DUE.is("put: no CAUSE", 0, x.cause());
        DUE.is("put: NULL, CAST by the LANE that it had", NULL, x.put(3, 2, 0, 1));
        DUE.is("put: NULL, INDEX", NULL, x.put(3, 3, -1, 1));
        DUE.is("put: NULL, CAST, INDEX", NULL, x.put(3, 0, 3, 1));
        DUE.is("put: CAST, INDEX", CAST, x.put(0, 3, 3, 1));
        DUE.is("put: CAST, INDEX", CAST, x.put(0, 1, -1, 1));
        DUE.is("put: CAST, INDEX of an empty row", CAST, x.put(2, 1, 0, 1));
    }

    private static void copy() {
        SharesOfSeries x = withSheets();
        DUE.is("copy: UNKNOWN s, NULL t", UNKNOWN, x.copy(4, 0, 3, 0, 1));
        DUE.is("copy: NULL s, UNKNOWN t", UNKNOWN, x.copy(3, 0, 4, 0, 1));
        DUE.is("copy: UNKNOWN s, INDEX", UNKNOWN, x.copy(-1, -1, 0, 3, -1));
        DUE.is("copy: UNKNOWN t, INDEX", UNKNOWN, x.copy(0, -1, -1, 3, -1));
        DUE.is("copy: UNKNOWN both, INDEX", UNKNOWN, x.copy(4, -1, 4, 3, -1));
        DUE.is("copy: no CAUSE", 0, x.cause());
        DUE.is("copy: NULL s, CAST", NULL, x.copy(3, 0, 0, 0, 1));
        DUE.is("copy: NULL t, CAST", NULL, x.copy(0, 0, 3, 0, 1));
        DUE.is("copy: NULL s, INDEX", NULL, x.copy(3, -1, 0, 3, 1));
        DUE.is("copy: NULL t, INDEX", NULL, x.copy(0, 3, 3, 0, -1));
        DUE.is("copy: NULL both, INDEX", NULL, x.copy(3, 0, 3, 0, -1));
        DUE.is("copy: CAST, INDEX by i", CAST, x.copy(0, -1, 1, 0, 1));
        DUE.is("copy: CAST, INDEX by j", CAST, x.copy(1, 0, 0, 3, 1));
        DUE.is("copy: CAST, INDEX by n", CAST, x.copy(0, 0, 1, 0, 4));
        DUE.is("copy: CAST, INDEX by n below 0", CAST, x.copy(0, 0, 2, 0, -1));
        DUE.is("copy: CAST, INDEX of an empty row", CAST, x.copy(2, 0, 0, 0, 1));
        DUE.is("copy: each told once", 5, x.causes(1));
        DUE.is("copy: each told once", 5, x.causes(4));
        DUE.is("copy: never", 0, x.causes(2));
    }

    private static void series() {
        SharesOfSeries x = fullWithSheets();
        DUE.is("series: UNKNOWN, OUTSIDE", UNKNOWN, x.series(4, 0, 41));
        DUE.is("series: UNKNOWN, INDEX", UNKNOWN, x.series(4, -1, 0));
        DUE.is("series: UNKNOWN, FULL", UNKNOWN, x.series(4, 0, 0));
        DUE.is("series: OUTSIDE, NULL", OUTSIDE, x.series(3, 0, 41));
        DUE.is("series: OUTSIDE, NULL", OUTSIDE, x.series(3, 0, -1));
        DUE.is("series: OUTSIDE, INDEX", OUTSIDE, x.series(0, 3, 41));
        DUE.is("series: OUTSIDE, INDEX", OUTSIDE, x.series(0, -1, -1));
        DUE.is("series: OUTSIDE, FULL", OUTSIDE, x.series(0, 0, -1));
        DUE.is("series: no CAUSE", 0, x.cause());
        DUE.is("series: NULL, INDEX, FULL", NULL, x.series(3, -1, 0));
        DUE.is("series: NULL, FULL", NULL, x.series(3, 0, 0));
        DUE.is("series: INDEX, FULL", INDEX, x.series(0, 0, 3));
        DUE.is("series: INDEX, FULL", INDEX, x.series(2, 0, 0));
        DUE.is("series: FULL alone", FULL, x.series(0, 0, 2));
        x.clear();
        DUE.is("series: NULL, INDEX", NULL, x.series(3, -1, 0));
    }

    private static void share() {
        SharesOfSeries x = fullWithSheets();
        DUE.is("share: UNKNOWN, OUTSIDE", UNKNOWN, x.share(4, 0, 41, 41, 41));
        DUE.is("share: UNKNOWN, INDEX", UNKNOWN, x.share(4, -1, 0, 0, 0));
        DUE.is("share: UNKNOWN, FULL", UNKNOWN, x.share(4, 0, 0, 0, 0));
        for (int no : Made.NO_LENGTHS) {
            DUE.is("share: OUTSIDE by l, NULL", OUTSIDE, x.share(3, 0, no, 0, 0));
            DUE.is("share: OUTSIDE by m, INDEX", OUTSIDE, x.share(0, 3, 0, no, 0));
            DUE.is("share: OUTSIDE by n, ZERO", OUTSIDE, x.share(0, 1, 0, 0, no));
            DUE.is("share: OUTSIDE by n, INDEX", OUTSIDE, x.share(0, 0, 40, 40, no));
            DUE.is("share: OUTSIDE by n, FULL", OUTSIDE, x.share(0, 0, 0, 0, no));
        }
        DUE.is("share: no CAUSE", 0, x.cause());
        DUE.is("share: NULL, INDEX, FULL", NULL, x.share(3, -1, 0, 0, 0));
        DUE.is("share: NULL, FULL", NULL, x.share(3, 0, 0, 0, 0));
        DUE.is("share: INDEX, FULL", INDEX, x.share(0, 2, 0, 0, 0));
        // q begins with the 0 that is there, and goes on where nothing is.
        DUE.is("share: INDEX, ZERO, FULL", INDEX, x.share(0, 1, 0, 1, 0));
        DUE.is("share: ZERO, FULL", ZERO, x.share(0, 1, 0, 0, 0));
        DUE.is("share: FULL alone", FULL, x.share(0, 0, 0, 1, 0));
        x.clear();
        DUE.is("share: NULL, INDEX", NULL, x.share(3, -1, 0, 0, 0));
        DUE.is("share: INDEX, ZERO", INDEX, x.share(0, 1, 0, 1, 0));
    }

    private static void unfold() {
        SharesOfSeries x = fullWithSheets();
        for (int no : Made.NO_LENGTHS) DUE.is("unfold: OUTSIDE, FULL", OUTSIDE, x.unfold(no));
        DUE.is("unfold: FULL alone", FULL, x.unfold(0));
        x.point(1, 1);
        x.point(-1, -1);
        x.join(0, 1);
        for (int no : Made.NO_LENGTHS) DUE.is("unfold: OUTSIDE, ZERO, FULL", OUTSIDE, x.unfold(no));
        DUE.is("unfold: no CAUSE", 0, x.cause());
        DUE.is("unfold: ZERO, FULL", ZERO, x.unfold(0));
        x.clear();
        for (int no : Made.NO_LENGTHS) DUE.is("unfold: OUTSIDE, ZERO", OUTSIDE, x.unfold(no));
        DUE.is("unfold: ZERO alone", ZERO, x.unfold(40));
    }

    private static void seriesOfSeries() {
        SharesOfSeries x = fullWithSheets();
        for (int no : new int[] {-1, 10, Made.LOW, Made.HIGH}) {
            DUE.is("plus: UNKNOWN f, FULL", UNKNOWN, x.plus(no, 0, 1));
            DUE.is("plus: UNKNOWN g, FULL", UNKNOWN, x.plus(0, no, 1));
            DUE.is("times: UNKNOWN f, FULL", UNKNOWN, x.times(no, 0));
            DUE.is("times: UNKNOWN g, FULL", UNKNOWN, x.times(0, no));
            DUE.is("under: UNKNOWN, FULL", UNKNOWN, x.under(no));
            DUE.is("moved: UNKNOWN, FULL", UNKNOWN, x.moved(no, 1, 0));
            DUE.is("moved: UNKNOWN, OUTSIDE, FULL", UNKNOWN, x.moved(no, 1, 41));
        }
        for (int no : Made.NO_LENGTHS) DUE.is("moved: OUTSIDE, FULL", OUTSIDE, x.moved(0, 1, no));
        DUE.is("no CAUSE", 0, x.cause());
        DUE.is("under: ZERO, FULL", ZERO, x.under(9));
        DUE.is("under: FULL alone", FULL, x.under(0));
        DUE.is("moved: UNKNOWN, OUTSIDE", UNKNOWN, new SharesOfSeries().moved(0, 1, -1));
        DUE.is("number: UNKNOWN, not known", UNKNOWN, x.number(10, 41));
    }

    private static void table() {
        SharesOfSeries x = fullWithSheets();
        for (int no : new int[] {-1, 10, Made.LOW, Made.HIGH}) {
            DUE.is("entry: UNKNOWN, OUTSIDE", UNKNOWN, x.entry(no, -1, 0));
            DUE.is("entry: UNKNOWN, OUTSIDE", UNKNOWN, x.entry(no, 41, 41));
            DUE.is("worth: UNKNOWN, OUTSIDE", UNKNOWN, x.worth(no, 0, -1));
            DUE.is("block: UNKNOWN, OUTSIDE by l", UNKNOWN, x.block(no, -1, 0, 0));
            DUE.is("block: UNKNOWN, OUTSIDE by what", UNKNOWN, x.block(no, 0, 0, 3));
            DUE.is("stair: UNKNOWN, OUTSIDE", UNKNOWN, x.stair(no, -1));
        }
        // SERIES 1 is 0 1: its ENTRIES of 0, 0 and 0, 1 are 0 by 1.
        DUE.is("block: OUTSIDE by l, ZERO", OUTSIDE, x.block(1, -1, 0, 2));
        DUE.is("block: OUTSIDE by m, ZERO", OUTSIDE, x.block(1, 0, 2, 2));
        for (int what : new int[] {-1, 3}) DUE.is("block: OUTSIDE by what, ZERO", OUTSIDE, x.block(1, 0, 1, what));
        x.clear();
        Made.series(x, 5, 0, 7);
        DUE.is("stair: OUTSIDE, ZERO", OUTSIDE, x.stair(0, 3));
        DUE.is("no CAUSE", 0, x.cause());
        DUE.is("stair: ZERO alone", ZERO, x.stair(0, 2));
    }

    private static void points() {
        SharesOfSeries full = Made.twentyPoints();
        DUE.is("point: STATE, FULL", STATE, full.point(0, 1));
        DUE.is("point: STATE, FULL", STATE, full.point(19, 0));
        DUE.is("point: FULL alone", FULL, full.point(20, 0));
        for (int[] w : new int[][] {{-1, 0}, {0, -1}, {-1, 22}, {Made.LOW, 0}}) {
            DUE.is("join: OUTSIDE, STATE", OUTSIDE, full.join(w[0], w[1]));
            DUE.is("join: OUTSIDE, STATE, no POINTS", OUTSIDE, new SharesOfSeries().join(w[0], w[1]));
        }
        DUE.is("join: STATE alone", STATE, full.join(20, 0));
    }

    private static void told() {
        SharesOfSeries x = new SharesOfSeries();
        DUE.is("term: OUTSIDE, no such TERM", OUTSIDE, x.term(2, -1));
        DUE.is("term: OUTSIDE, no such TERM", OUTSIDE, x.term(-1, 41));
    }
}
