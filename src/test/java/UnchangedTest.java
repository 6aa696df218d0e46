import java.util.ArrayList;
import java.util.HashSet;
import java.util.List;
import java.util.Set;
import java.util.function.Supplier;
import java.util.function.ToIntFunction;

/**
 * "what is refused or has a CAUSE changes nothing but cause(), causes()": of two like objects one is told the call,
 * and then both are asked, and told more, whatever could tell a difference.
 */
public final class UnchangedTest {
    private static final Due DUE = new Due("UnchangedTest");
    private static final int UNKNOWN = SharesOfSeries.UNKNOWN, OUTSIDE = SharesOfSeries.OUTSIDE;
    private static final int STATE = SharesOfSeries.STATE, FULL = SharesOfSeries.FULL;
    private static final int NULL = Made.NULL, INDEX = Made.INDEX, SIZE = Made.SIZE, CAST = Made.CAST, ZERO = Made.ZERO;
    private static final String[] WORDS = {"UNKNOWN", "OUTSIDE", "STATE", "FULL", "NULL", "INDEX", "SIZE", "CAST", "ZERO"};
    private static final int[] ANSWERS = {UNKNOWN, OUTSIDE, STATE, FULL, NULL, INDEX, SIZE, CAST, ZERO};

    private static final Set<String> TRIED = new HashSet<>();

    public static void main(String[] args) {
        DUE.about(0, "what is refused or has a CAUSE changes nothing but cause(), causes().");
        sheets();
        seriesOfSheets();
        seriesOfSeries();
        table();
        points();
        told();
        everyRefusalWasTried();
        DUE.end();
    }

    // ---- states

    private static SharesOfSeries ordinary() {
        SharesOfSeries x = Made.modulo(101);
        Made.sheet(x, 0, 2, 1, 1, 0, 3, 500, -7);
        Made.sheet(x, 1, 1, 4, 5, 6);
        x.sheet(2, 0, 0);
        Made.sheet(x, 3, 3, 8, 8);
        x.lose(3);
        x.put(1, 1, 3, 9);
        x.series(0, 0, 5);
        x.series(0, 2, 3);
        x.share(0, 0, 0, 1, 4);
        x.series(0, 1, 4);
        Made.series(x, 5, 0, 0, 0, 1);
        for (int i = 0; i < 5; i++) x.point(i, i * i + 3);
        x.entry(0, 2, 2);
        return x;
    }

    /** As much as there can be, but for SHEET 3. */
    private static SharesOfSeries full() {
        SharesOfSeries x = ordinary();
        x.sheet(2, 0, 60);
        x.put(2, 0, 59, -1);
        for (int f = 5; f < 10; f++) x.times(0, 0);
        for (int i = 5; i < 20; i++) x.point(i, i);
        return x;
    }

    /** THE RESULT is 1 by x. */
    private static SharesOfSeries fullWithPole() {
        SharesOfSeries x = ordinary();
        x.wipe();
        x.point(1, 1);
        x.point(-1, -1);
        x.join(0, 1);
        for (int f = 5; f < 10; f++) x.plus(0, 1, 3);
        return x;
    }

    // ---- one call

    private static void in(Supplier<SharesOfSeries> state, String call, int want, ToIntFunction<SharesOfSeries> told) {
        SharesOfSeries x = state.get();
        SharesOfSeries twin = state.get();
        String what = call + " that answers " + want;
        DUE.is(what, want, told.applyAsInt(x));
        TRIED.add(call + want);
        int cause = want > -20 ? -10 - want : 0;
        DUE.is(what + ": cause", cause > 0 ? cause : twin.cause(), x.cause());
        for (int c = 1; c <= 5; c++) DUE.is(what + ": causes " + c, twin.causes(c) + (c == cause ? 1 : 0), x.causes(c));
        List<Long> mine = seen(x);
        List<Long> others = seen(twin);
        for (int i = 0; i < mine.size(); i++) DUE.is(what + ": question " + i, others.get(i), mine.get(i));
    }

    private static List<Long> seen(SharesOfSeries x) {
        List<Long> seen = new ArrayList<>();
        seen.add(x.digest());
        for (int what = 0; what <= 3; what++) seen.add((long) x.count(what));
        for (int side = 0; side <= 1; side++) {
            seen.add((long) x.degree(side));
            for (int k = 0; k <= 6; k++) seen.add((long) x.term(side, k));
        }
        for (int f = 0; f <= 10; f++) {
            seen.add((long) x.length(f));
            seen.add((long) x.number(f, 4));
            seen.add((long) x.number(f, 5));
        }
        for (int at = -1; at <= 3; at++) seen.add((long) x.value(at));
        seenByChanges(x, seen);
        return seen;
    }

    private static void seenByChanges(SharesOfSeries x, List<Long> seen) {
        for (int s = 0; s <= 3; s++) {
            for (int lane = 0; lane <= 3; lane++) seen.add((long) x.put(s, lane, 0, 300));
        }
        seen.add((long) x.copy(0, 0, 0, 2, 3));
        seen.add((long) x.unfold(7));
        seen.add((long) x.point(60, 3));
        for (int m = 0; m <= 5; m++) seen.add((long) x.join(x.count(2) - 1 - m, m));
        seen.add((long) x.recur(0));
        seen.add(x.digest());
        seen.add((long) x.entry(0, 1, 3));
        seen.add((long) x.worth(0, 2, 3));
        seen.add((long) x.block(0, 2, 3, 2));
        seen.add((long) x.stair(0, 2));
        seen.add((long) x.clear());
        seen.add((long) x.wipe());
        seen.add((long) x.unfold(40));
        seen.add((long) x.share(0, 0, 1, 0, 12));
        seen.add((long) x.series(0, 0, 3));
        seen.add((long) x.moved(0, 3, 1));
        seen.add((long) x.under(0));
        for (int f = 0; f <= 5; f++) seen.add((long) x.length(f));
        seen.add(x.digest());
        for (int s = 0; s <= 3; s++) seen.add((long) x.lose(s));
        x.clear();
        seen.add((long) x.prime(7));
        seen.add(x.digest());
    }

    // ---- all calls

    private static void sheets() {
        in(SharesOfSeries::new, "prime", OUTSIDE, x -> x.prime(1));
        in(UnchangedTest::ordinary, "prime", OUTSIDE, x -> x.prime(30013));
        in(UnchangedTest::ordinary, "prime", STATE, x -> x.prime(7));
        in(UnchangedTest::full, "prime", STATE, x -> x.prime(101));
        in(UnchangedTest::ordinary, "sheet", UNKNOWN, x -> x.sheet(4, 0, 1));
        in(UnchangedTest::ordinary, "sheet", OUTSIDE, x -> x.sheet(0, 4, 1));
        in(UnchangedTest::ordinary, "sheet", OUTSIDE, x -> x.sheet(0, 1, 61));
        in(UnchangedTest::ordinary, "sheet", SIZE, x -> x.sheet(0, 1, -1));
        in(SharesOfSeries::new, "sheet", SIZE, x -> x.sheet(0, 1, Made.LOW));
        in(UnchangedTest::ordinary, "put", UNKNOWN, x -> x.put(4, 2, 0, 9));
        in(UnchangedTest::ordinary, "put", OUTSIDE, x -> x.put(0, 4, 0, 9));
        in(UnchangedTest::ordinary, "put", NULL, x -> x.put(3, 3, 0, 9));
        in(UnchangedTest::ordinary, "put", CAST, x -> x.put(0, 3, 0, 9));
        in(UnchangedTest::ordinary, "put", INDEX, x -> x.put(0, 2, 6, 9));
        in(UnchangedTest::full, "put", INDEX, x -> x.put(2, 0, -1, 9));
        in(UnchangedTest::ordinary, "copy", UNKNOWN, x -> x.copy(0, 0, 4, 0, 1));
        in(UnchangedTest::ordinary, "copy", NULL, x -> x.copy(0, 0, 3, 0, 1));
        in(UnchangedTest::ordinary, "copy", NULL, x -> x.copy(3, 0, 0, 0, 1));
        in(UnchangedTest::ordinary, "copy", CAST, x -> x.copy(0, 0, 1, 0, 1));
        in(UnchangedTest::ordinary, "copy", INDEX, x -> x.copy(0, 4, 0, 0, 3));
        in(UnchangedTest::ordinary, "copy", INDEX, x -> x.copy(0, 0, 0, 4, 3));
        in(UnchangedTest::ordinary, "copy", INDEX, x -> x.copy(0, 3, 0, 0, -1));
        in(UnchangedTest::ordinary, "lose", UNKNOWN, x -> x.lose(-1));
        in(UnchangedTest::ordinary, "lose", NULL, x -> x.lose(3));
        in(SharesOfSeries::new, "lose", NULL, x -> x.lose(0));
    }

    private static void seriesOfSheets() {
        in(UnchangedTest::ordinary, "series", UNKNOWN, x -> x.series(4, 0, 0));
        in(UnchangedTest::ordinary, "series", OUTSIDE, x -> x.series(0, 0, 41));
        in(UnchangedTest::ordinary, "series", NULL, x -> x.series(3, 0, 0));
        in(UnchangedTest::ordinary, "series", INDEX, x -> x.series(0, 1, 5));
        in(UnchangedTest::full, "series", INDEX, x -> x.series(0, 6, 0));
        in(UnchangedTest::full, "series", FULL, x -> x.series(0, 0, 5));
        in(UnchangedTest::ordinary, "share", UNKNOWN, x -> x.share(4, 0, 0, 0, 0));
        in(UnchangedTest::ordinary, "share", OUTSIDE, x -> x.share(0, 0, 0, 0, 41));
        in(UnchangedTest::ordinary, "share", NULL, x -> x.share(3, 0, 0, 0, 0));
        in(UnchangedTest::ordinary, "share", INDEX, x -> x.share(0, 0, 3, 2, 9));
        in(UnchangedTest::ordinary, "share", ZERO, x -> x.share(0, 1, 0, 3, 9));
        in(UnchangedTest::full, "share", ZERO, x -> x.share(0, 1, 0, 3, 9));
        in(UnchangedTest::full, "share", FULL, x -> x.share(0, 3, 0, 1, 9));
        in(UnchangedTest::ordinary, "unfold", OUTSIDE, x -> x.unfold(41));
        in(UnchangedTest::fullWithPole, "unfold", ZERO, x -> x.unfold(3));
        in(UnchangedTest::full, "unfold", FULL, x -> x.unfold(3));
    }

    private static void seriesOfSeries() {
        in(UnchangedTest::ordinary, "plus", UNKNOWN, x -> x.plus(0, 5, 1));
        in(UnchangedTest::ordinary, "plus", UNKNOWN, x -> x.plus(-1, 0, 1));
        in(UnchangedTest::full, "plus", FULL, x -> x.plus(0, 9, 1));
        in(UnchangedTest::ordinary, "times", UNKNOWN, x -> x.times(5, 0));
        in(UnchangedTest::full, "times", FULL, x -> x.times(0, 9));
        in(UnchangedTest::ordinary, "under", UNKNOWN, x -> x.under(5));
        in(UnchangedTest::ordinary, "under", ZERO, x -> x.under(1));
        in(UnchangedTest::full, "under", ZERO, x -> x.under(1));
        in(UnchangedTest::full, "under", FULL, x -> x.under(0));
        in(UnchangedTest::ordinary, "moved", UNKNOWN, x -> x.moved(5, 1, 0));
        in(UnchangedTest::ordinary, "moved", OUTSIDE, x -> x.moved(0, 1, 41));
        in(UnchangedTest::full, "moved", FULL, x -> x.moved(0, 1, 1));
        in(UnchangedTest::ordinary, "number", UNKNOWN, x -> x.number(5, 0));
        in(UnchangedTest::full, "number", UNKNOWN, x -> x.number(10, 0));
        in(UnchangedTest::ordinary, "length", UNKNOWN, x -> x.length(5));
    }

    private static void table() {
        in(UnchangedTest::ordinary, "entry", UNKNOWN, x -> x.entry(5, 0, 0));
        in(UnchangedTest::ordinary, "entry", OUTSIDE, x -> x.entry(0, 3, 3));
        in(UnchangedTest::ordinary, "entry", OUTSIDE, x -> x.entry(0, -1, 3));
        in(UnchangedTest::ordinary, "worth", UNKNOWN, x -> x.worth(5, 0, 0));
        in(UnchangedTest::ordinary, "worth", OUTSIDE, x -> x.worth(0, 0, 6));
        in(UnchangedTest::ordinary, "block", UNKNOWN, x -> x.block(5, 0, 0, 0));
        in(UnchangedTest::ordinary, "block", OUTSIDE, x -> x.block(0, 0, 0, 3));
        in(UnchangedTest::ordinary, "block", OUTSIDE, x -> x.block(0, 6, 0, 0));
        in(UnchangedTest::ordinary, "block", ZERO, x -> x.block(1, 0, 3, 2));
        in(UnchangedTest::ordinary, "stair", UNKNOWN, x -> x.stair(5, 0));
        in(UnchangedTest::ordinary, "stair", OUTSIDE, x -> x.stair(0, 6));
        in(UnchangedTest::ordinary, "stair", ZERO, x -> x.stair(4, 4));
        in(UnchangedTest::ordinary, "recur", UNKNOWN, x -> x.recur(5));
        in(SharesOfSeries::new, "recur", UNKNOWN, x -> x.recur(0));
    }

    private static void points() {
        in(UnchangedTest::ordinary, "point", STATE, x -> x.point(0, 4));
        in(UnchangedTest::full, "point", STATE, x -> x.point(19, 4));
        in(UnchangedTest::full, "point", FULL, x -> x.point(20, 4));
        in(UnchangedTest::ordinary, "join", OUTSIDE, x -> x.join(-1, 5));
        in(UnchangedTest::ordinary, "join", STATE, x -> x.join(3, 2));
        in(UnchangedTest::ordinary, "join", STATE, x -> x.join(3, 0));
        in(SharesOfSeries::new, "join", STATE, x -> x.join(0, 0));
    }

    private static void told() {
        in(UnchangedTest::ordinary, "degree", OUTSIDE, x -> x.degree(2));
        in(UnchangedTest::ordinary, "term", OUTSIDE, x -> x.term(2, 0));
        in(UnchangedTest::ordinary, "causes", OUTSIDE, x -> x.causes(6));
        in(UnchangedTest::ordinary, "causes", OUTSIDE, x -> x.causes(0));
        in(UnchangedTest::ordinary, "count", OUTSIDE, x -> x.count(4));
    }

    private static void everyRefusalWasTried() {
        for (int promise = 2; promise <= Document.PROMISES; promise++) {
            String call = Document.name(promise);
            String text = Document.section(promise);
            for (int i = 0; i < WORDS.length; i++) {
                if (text.contains(WORDS[i])) DUE.holds(call + " was tried with " + WORDS[i], TRIED.contains(call + ANSWERS[i]));
            }
        }
    }
}
