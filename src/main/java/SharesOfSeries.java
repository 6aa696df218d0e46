import java.util.Arrays;

/**
 * Series told by their first numbers, the shares of two polynomials that agree with them longest,
 * and shares through points, all modulo a prime. The document's numbered promises say what each call does.
 */
public final class SharesOfSeries {
    public static final int NONE = -1, UNKNOWN = -101, OUTSIDE = -102, STATE = -103, FULL = -104;

    private static final int NULL_CAUSE = 1, INDEX_CAUSE = 2, SIZE_CAUSE = 3, CAST_CAUSE = 4, ZERO_CAUSE = 5;
    private static final int CAUSE_BASE = -10;

    private static final int FIRST_PRIME = 30011, GREATEST_PRIME = 30011;
    private static final int SHEET_COUNT = 4, LANE_COUNT = 4, MOST_CELLS = 60;
    private static final int BYTE_LANE = 0, SHORT_LANE = 1, INT_LANE = 2;
    private static final int MOST_SERIES = 10, MOST_LENGTH = 40, MOST_POINTS = 20;

    // The highest power ever held is x^(l + m + 1), l + m being a LENGTH at most.
    private static final int TERM_COUNT = MOST_LENGTH + 2;

    // Exponents of residues are below GREATEST_PRIME, which has fifteen bits.
    private static final int EXPONENT_BITS = 15;

    private static final long DIGEST_START = 89, DIGEST_FACTOR = 31;

    private final Residues residues = new Residues();
    private final Sheet[] sheets = new Sheet[SHEET_COUNT];
    private final Series[] kept = new Series[MOST_SERIES];
    private int keptCount = 0;
    private final Points points = new Points();
    private final Share result = new Share();
    private final Share trial = new Share();
    private final Euclid euclid = new Euclid();
    private final Determinant determinant = new Determinant();
    private final Recurrence recurrence = new Recurrence();
    private final Polynomial unfolded = new Polynomial();
    private final int[] causeCounts = new int[ZERO_CAUSE + 1];
    private int latestCause = 0;

    public SharesOfSeries() {
        for (int s = 0; s < SHEET_COUNT; s++) {
            sheets[s] = new Sheet();
        }
        for (int f = 0; f < MOST_SERIES; f++) {
            kept[f] = new Series();
        }
    }

    public int prime(int p) {
        if (!isAllowedPrime(p)) {
            return OUTSIDE;
        }
        if (keptCount > 0 || points.held > 0) {
            return STATE;
        }
        int before = residues.modulus;
        residues.modulus = p;
        result.becomeZero();
        return before;
    }

    // ---- sheets

    public int sheet(int s, int lane, int n) {
        Sheet target = sheetNumbered(s);
        if (target == null) {
            return UNKNOWN;
        }
        if (!isLane(lane) || n > MOST_CELLS) {
            return OUTSIDE;
        }
        if (n < 0) {
            return caused(SIZE_CAUSE);
        }
        target.renew(lane, n);
        return n;
    }

    public int put(int s, int lane, int i, long v) {
        Sheet target = sheetNumbered(s);
        if (target == null) {
            return UNKNOWN;
        }
        if (!isLane(lane)) {
            return OUTSIDE;
        }
        if (target.lost) {
            return caused(NULL_CAUSE);
        }
        if (target.lane != lane) {
            return caused(CAST_CAUSE);
        }
        if (!target.hasPlaces(i, 1)) {
            return caused(INDEX_CAUSE);
        }
        target.write(i, v);
        return 1;
    }

    public int copy(int s, int i, int t, int j, int n) {
        Sheet source = sheetNumbered(s);
        Sheet target = sheetNumbered(t);
        if (source == null || target == null) {
            return UNKNOWN;
        }
        if (source.lost || target.lost) {
            return caused(NULL_CAUSE);
        }
        if (source.lane != target.lane) {
            return caused(CAST_CAUSE);
        }
        if (!source.hasPlaces(i, n) || !target.hasPlaces(j, n)) {
            return caused(INDEX_CAUSE);
        }
        System.arraycopy(source.cells, i, target.cells, j, n);
        return 1;
    }

    public int lose(int s) {
        Sheet target = sheetNumbered(s);
        if (target == null) {
            return UNKNOWN;
        }
        if (target.lost) {
            return caused(NULL_CAUSE);
        }
        target.lost = true;
        return target.size;
    }

    // ---- series

    public int series(int s, int i, int n) {
        Sheet source = sheetNumbered(s);
        if (source == null) {
            return UNKNOWN;
        }
        if (!isLength(n)) {
            return OUTSIDE;
        }
        if (source.lost) {
            return caused(NULL_CAUSE);
        }
        if (!source.hasPlaces(i, n + 1)) {
            return caused(INDEX_CAUSE);
        }
        Series fresh = freshSeries(n);
        if (fresh == null) {
            return FULL;
        }
        readTerms(source, i, n + 1, fresh.numbers);
        return keepFresh();
    }

    public int share(int s, int i, int l, int m, int n) {
        Sheet source = sheetNumbered(s);
        if (source == null) {
            return UNKNOWN;
        }
        if (!isLength(l) || !isLength(m) || !isLength(n)) {
            return OUTSIDE;
        }
        if (source.lost) {
            return caused(NULL_CAUSE);
        }
        if (!source.hasPlaces(i, l + m + 2)) {
            return caused(INDEX_CAUSE);
        }
        readTerms(source, i, l + 1, trial.above);
        readTerms(source, i + l + 1, m + 1, trial.below);
        return keepUnfolded(trial, n);
    }

    public int unfold(int n) {
        return isLength(n) ? keepUnfolded(result, n) : OUTSIDE;
    }

    public int plus(int f, int g, int b) {
        Series left = seriesNumbered(f);
        Series right = seriesNumbered(g);
        if (left == null || right == null) {
            return UNKNOWN;
        }
        Series fresh = freshSeries(Math.min(left.last, right.last));
        if (fresh == null) {
            return FULL;
        }
        int factor = residues.of(b);
        for (int k = 0; k <= fresh.last; k++) {
            long sum = left.numbers.at(k) + (long) factor * right.numbers.at(k);
            fresh.numbers.set(k, residues.of(sum));
        }
        return keepFresh();
    }

    public int times(int f, int g) {
        Series left = seriesNumbered(f);
        Series right = seriesNumbered(g);
        if (left == null || right == null) {
            return UNKNOWN;
        }
        Series fresh = freshSeries(Math.min(left.last, right.last));
        if (fresh == null) {
            return FULL;
        }
        for (int k = 0; k <= fresh.last; k++) {
            long sum = 0;
            for (int j = 0; j <= k; j++) {
                sum += (long) left.numbers.at(j) * right.numbers.at(k - j);
            }
            fresh.numbers.set(k, residues.of(sum));
        }
        return keepFresh();
    }

    public int under(int f) {
        Series divisor = seriesNumbered(f);
        if (divisor == null) {
            return UNKNOWN;
        }
        trial.above.becomeNumber(1);
        trial.below.become(divisor.numbers);
        return keepUnfolded(trial, divisor.last);
    }

    public int moved(int f, int a, int k) {
        Series source = seriesNumbered(f);
        if (source == null) {
            return UNKNOWN;
        }
        if (!isLength(k)) {
            return OUTSIDE;
        }
        Series fresh = freshSeries(source.last);
        if (fresh == null) {
            return FULL;
        }
        int factor = residues.of(a);
        int power = 1;
        for (int j = 0; j + k <= fresh.last; j++) {
            fresh.numbers.set(j + k, residues.product(power, source.numbers.at(j)));
            power = residues.product(power, factor);
        }
        return keepFresh();
    }

    public int number(int f, int k) {
        Series asked = seriesNumbered(f);
        if (asked == null) {
            return UNKNOWN;
        }
        return k >= 0 && k <= asked.last ? asked.numbers.at(k) : NONE;
    }

    public int length(int f) {
        Series asked = seriesNumbered(f);
        return asked == null ? UNKNOWN : asked.last;
    }

    public int clear() {
        int before = keptCount;
        keptCount = 0;
        return before;
    }

    // ---- the table

    public int entry(int f, int l, int m) {
        Series asked = seriesNumbered(f);
        if (asked == null) {
            return UNKNOWN;
        }
        if (!isPairOf(asked, l, m)) {
            return OUTSIDE;
        }
        findEntry(asked, l, m, result);
        return agreement(asked, result);
    }

    public int worth(int f, int l, int m) {
        Series asked = seriesNumbered(f);
        if (asked == null) {
            return UNKNOWN;
        }
        if (!isPairOf(asked, l, m)) {
            return OUTSIDE;
        }
        determinant.fill(asked, l, m);
        return determinant.compute(m, residues);
    }

    public int block(int f, int l, int m, int what) {
        Series asked = seriesNumbered(f);
        if (asked == null) {
            return UNKNOWN;
        }
        if (!isPairOf(asked, l, m) || what < 0 || what > 2) {
            return OUTSIDE;
        }
        findEntry(asked, l, m, trial);
        int above = trial.above.top();
        int below = trial.below.top();
        if (above < 0) {
            return caused(ZERO_CAUSE);
        }
        if (what < 2) {
            return what == 0 ? above : below;
        }
        int agreed = agreement(asked, trial);
        return agreed > asked.last ? NONE : agreed - above - below;
    }

    public int stair(int f, int k) {
        Series asked = seriesNumbered(f);
        if (asked == null) {
            return UNKNOWN;
        }
        if (k < 0 || k > asked.last) {
            return OUTSIDE;
        }
        if (k == 0) {
            return asked.numbers.at(0);
        }
        Polynomial rest = unfolded;
        rest.become(asked.numbers);
        rest.dropLowest();
        for (int step = 1; step < k; step++) {
            if (rest.at(0) == 0) {
                return caused(ZERO_CAUSE);
            }
            stepDown(rest, asked.last - step);
        }
        return rest.at(0);
    }

    public int recur(int f) {
        Series asked = seriesNumbered(f);
        if (asked == null) {
            return UNKNOWN;
        }
        int least = recurrence.least(asked, residues);
        if (least == 0) {
            result.becomeZero();
        } else if (2 * least - 1 <= asked.last) {
            findEntry(asked, least - 1, least, result);
        }
        return least;
    }

    // ---- points

    public int point(int x, int y) {
        int place = residues.of(x);
        int height = residues.of(y);
        int known = points.indexOf(place);
        if (known >= 0) {
            return points.heightAt(known) == height ? points.held : STATE;
        }
        if (points.held >= MOST_POINTS) {
            return FULL;
        }
        points.add(place, height);
        return points.held;
    }

    public int wipe() {
        int before = points.held;
        points.held = 0;
        return before;
    }

    public int join(int l, int m) {
        if (l < 0 || m < 0) {
            return OUTSIDE;
        }
        if ((long) l + m + 1 != points.held) {
            return STATE;
        }
        points.interpolate(euclid.modulus, euclid.start, residues);
        euclid.findShare(l, trial, residues);
        if (!points.allOn(trial, residues)) {
            return 0;
        }
        result.become(trial);
        return 1;
    }

    // ---- the result

    public int degree(int side) {
        Polynomial asked = result.side(side);
        return asked == null ? OUTSIDE : asked.top();
    }

    public int term(int side, int k) {
        Polynomial asked = result.side(side);
        return asked == null ? OUTSIDE : asked.at(k);
    }

    public int value(int x) {
        int place = residues.of(x);
        int divisor = result.below.valueAt(place, residues);
        if (divisor == 0) {
            return NONE;
        }
        return residues.product(result.above.valueAt(place, residues), residues.inverse(divisor));
    }

    // ---- what is told

    public int cause() {
        return latestCause;
    }

    public int causes(int c) {
        return c >= NULL_CAUSE && c <= ZERO_CAUSE ? causeCounts[c] : OUTSIDE;
    }

    public int count(int what) {
        switch (what) {
            case 0:
                return residues.modulus;
            case 1:
                return keptCount;
            case 2:
                return points.held;
            case 3:
                return presentSheets();
            default:
                return OUTSIDE;
        }
    }

    public long digest() {
        long h = mixed(DIGEST_START, residues.modulus);
        for (int s = 0; s < SHEET_COUNT; s++) {
            h = sheets[s].mixedInto(h);
        }
        for (int f = 0; f < keptCount && f < MOST_SERIES; f++) {
            h = mixed(h, kept[f].last);
            h = kept[f].numbers.mixedInto(h, kept[f].last);
        }
        h = points.mixedInto(h);
        int above = result.above.top();
        int below = result.below.top();
        h = mixed(mixed(h, above), below);
        h = result.above.mixedInto(h, above);
        return result.below.mixedInto(h, below);
    }

    // ---- what the calls share

    private static long mixed(long h, long v) {
        return DIGEST_FACTOR * h + v;
    }

    private static boolean isAllowedPrime(int p) {
        if (p < 2 || p > GREATEST_PRIME) {
            return false;
        }
        for (int d = 2; d * d <= p; d++) {
            if (p % d == 0) {
                return false;
            }
        }
        return true;
    }

    private static boolean isLane(int lane) {
        return lane >= 0 && lane < LANE_COUNT;
    }

    private static boolean isLength(int n) {
        return n >= 0 && n <= MOST_LENGTH;
    }

    // Written as a difference, because l + m may be beyond what an int holds.
    private static boolean isPairOf(Series asked, int l, int m) {
        return l >= 0 && m >= 0 && l <= asked.last - m;
    }

    private int caused(int c) {
        if (c >= NULL_CAUSE && c <= ZERO_CAUSE) {
            latestCause = c;
            causeCounts[c]++;
        }
        return CAUSE_BASE - c;
    }

    private Sheet sheetNumbered(int s) {
        return s >= 0 && s < SHEET_COUNT ? sheets[s] : null;
    }

    private int presentSheets() {
        int present = 0;
        for (int s = 0; s < SHEET_COUNT; s++) {
            if (!sheets[s].lost) {
                present++;
            }
        }
        return present;
    }

    private Series seriesNumbered(int f) {
        return f >= 0 && f < keptCount && f < MOST_SERIES ? kept[f] : null;
    }

    // The row behind the last SERIES, emptied: it is no SERIES before keepFresh.
    private Series freshSeries(int last) {
        if (keptCount >= MOST_SERIES) {
            return null;
        }
        Series fresh = kept[keptCount];
        fresh.last = last;
        fresh.numbers.becomeNumber(0);
        return fresh;
    }

    private int keepFresh() {
        keptCount++;
        return keptCount - 1;
    }

    private int keepUnfolded(Share source, int last) {
        if (source.below.at(0) == 0) {
            return caused(ZERO_CAUSE);
        }
        Series fresh = freshSeries(last);
        if (fresh == null) {
            return FULL;
        }
        source.unfoldInto(fresh.numbers, last, residues);
        return keepFresh();
    }

    private void readTerms(Sheet source, int from, int n, Polynomial target) {
        target.becomeNumber(0);
        for (int k = 0; k < n; k++) {
            target.set(k, residues.of(source.read(from + k)));
        }
    }

    private void findEntry(Series asked, int l, int m, Share target) {
        euclid.modulus.becomeNumber(0);
        euclid.modulus.set(l + m + 1, 1);
        euclid.start.becomeNumber(0);
        for (int k = 0; k <= l + m; k++) {
            euclid.start.set(k, asked.numbers.at(k));
        }
        euclid.findShare(l, target, residues);
    }

    // Where rest is a(k) by (1 and x times the next rest), it becomes the next rest.
    private void stepDown(Polynomial rest, int last) {
        trial.above.becomeNumber(rest.at(0));
        trial.below.become(rest);
        trial.unfoldInto(rest, last, residues);
        rest.dropLowest();
    }

    private int agreement(Series asked, Share candidate) {
        candidate.unfoldInto(unfolded, asked.last, residues);
        int agreed = 0;
        while (agreed <= asked.last && unfolded.at(agreed) == asked.numbers.at(agreed)) {
            agreed++;
        }
        return agreed;
    }

    /** Arithmetic modulo the prime. */
    private static final class Residues {
        private int modulus = FIRST_PRIME;

        int of(long v) {
            if (modulus < 2) {
                return 0;
            }
            long rest = v % modulus;
            return (int) (rest < 0 ? rest + modulus : rest);
        }

        int product(int a, int b) {
            return of((long) a * b);
        }

        int negative(int a) {
            return of(-(long) a);
        }

        // A residue to the power P - 2 is its inverse, so that no divisor is ever needed.
        int inverse(int a) {
            int exponent = modulus - 2;
            int power = 1;
            int square = a;
            for (int bit = 0; bit < EXPONENT_BITS; bit++) {
                if ((exponent >> bit & 1) == 1) {
                    power = of((long) power * square);
                }
                square = of((long) square * square);
            }
            return power;
        }
    }

    /** Terms of x^0 on, of a polynomial or of the known part of a series. */
    private static final class Polynomial {
        private final int[] terms = new int[TERM_COUNT];

        int at(int k) {
            return k >= 0 && k < TERM_COUNT ? terms[k] : 0;
        }

        void set(int k, int v) {
            if (k >= 0 && k < TERM_COUNT) {
                terms[k] = v;
            }
        }

        int top() {
            int k = TERM_COUNT - 1;
            while (k >= 0 && terms[k] == 0) {
                k--;
            }
            return k;
        }

        int lowestTerm() {
            for (int k = 0; k < TERM_COUNT; k++) {
                if (terms[k] != 0) {
                    return terms[k];
                }
            }
            return 0;
        }

        void becomeNumber(int v) {
            Arrays.fill(terms, 0);
            terms[0] = v;
        }

        void become(Polynomial other) {
            System.arraycopy(other.terms, 0, terms, 0, TERM_COUNT);
        }

        void dropLowest() {
            System.arraycopy(terms, 1, terms, 0, TERM_COUNT - 1);
            terms[TERM_COUNT - 1] = 0;
        }

        int valueAt(int x, Residues residues) {
            int sum = 0;
            for (int k = TERM_COUNT - 1; k >= 0; k--) {
                sum = residues.of((long) sum * x + terms[k]);
            }
            return sum;
        }

        void scale(int factor, Residues residues) {
            for (int k = 0; k < TERM_COUNT; k++) {
                terms[k] = residues.product(terms[k], factor);
            }
        }

        // Adds factor x^shift times another polynomial.
        void addMultiple(Polynomial other, int factor, int shift, Residues residues) {
            for (int k = shift; k < TERM_COUNT; k++) {
                set(k, residues.of(at(k) + (long) factor * other.at(k - shift)));
            }
        }

        void subtractProduct(Polynomial left, Polynomial right, Residues residues) {
            int top = left.top();
            for (int shift = 0; shift <= top; shift++) {
                addMultiple(right, residues.negative(left.at(shift)), shift, residues);
            }
        }

        // This becomes (x - root) times itself.
        void addRoot(int root, Residues residues) {
            for (int k = TERM_COUNT - 1; k >= 0; k--) {
                terms[k] = residues.of(at(k - 1) - (long) root * terms[k]);
            }
        }

        // This becomes the remainder.
        void divide(Polynomial divisor, Polynomial quotient, Residues residues) {
            quotient.becomeNumber(0);
            int low = divisor.top();
            if (low < 0) {
                return;
            }
            int inverse = residues.inverse(divisor.at(low));
            for (int k = top(); k >= low; k--) {
                int factor = residues.product(at(k), inverse);
                quotient.set(k - low, factor);
                addMultiple(divisor, residues.negative(factor), k - low, residues);
            }
        }

        long mixedInto(long start, int last) {
            long h = start;
            for (int k = 0; k <= last; k++) {
                h = mixed(h, at(k));
            }
            return h;
        }
    }

    /** One polynomial by another. */
    private static final class Share {
        private final Polynomial above = new Polynomial();
        private final Polynomial below = new Polynomial();

        Share() {
            below.becomeNumber(1);
        }

        void becomeZero() {
            above.becomeNumber(0);
            below.becomeNumber(1);
        }

        void become(Share other) {
            above.become(other.above);
            below.become(other.below);
        }

        Polynomial side(int side) {
            if (side == 0) {
                return above;
            }
            return side == 1 ? below : null;
        }

        // Asks for a term of x^0 below that is not 0; target is neither above nor below.
        void unfoldInto(Polynomial target, int last, Residues residues) {
            target.becomeNumber(0);
            int inverse = residues.inverse(below.at(0));
            for (int k = 0; k <= last; k++) {
                long sum = above.at(k);
                for (int j = 1; j <= k; j++) {
                    sum -= (long) below.at(j) * target.at(k - j);
                }
                target.set(k, residues.product(residues.of(sum), inverse));
            }
        }
    }

    /** The known numbers c(0) to c(last). */
    private static final class Series {
        private final Polynomial numbers = new Polynomial();
        private int last = 0;
    }

    /** A row of a lane, or a lost one: the row stays and is used again. */
    private static final class Sheet {
        private final long[] cells = new long[MOST_CELLS];
        private boolean lost = true;
        private int lane = 0;
        private int size = 0;

        void renew(int newLane, int newSize) {
            Arrays.fill(cells, 0L);
            lost = false;
            lane = newLane;
            size = newSize;
        }

        boolean hasPlaces(int from, int n) {
            return n >= 0 && from >= 0 && from <= size - n;
        }

        long read(int i) {
            return i >= 0 && i < MOST_CELLS ? cells[i] : 0L;
        }

        void write(int i, long v) {
            if (i >= 0 && i < MOST_CELLS) {
                cells[i] = castToLane(v);
            }
        }

        private long castToLane(long v) {
            switch (lane) {
                case BYTE_LANE:
                    return (byte) v;
                case SHORT_LANE:
                    return (short) v;
                case INT_LANE:
                    return (int) v;
                default:
                    return v;
            }
        }

        long mixedInto(long start) {
            if (lost) {
                return mixed(start, -1);
            }
            long h = mixed(start, size);
            for (int i = 0; i < size && i < MOST_CELLS; i++) {
                h = mixed(h, cells[i]);
            }
            return h;
        }
    }

    /** Points with different x. */
    private static final class Points {
        private final int[] places = new int[MOST_POINTS];
        private final int[] heights = new int[MOST_POINTS];
        private int held = 0;

        int indexOf(int place) {
            for (int i = 0; i < held && i < MOST_POINTS; i++) {
                if (places[i] == place) {
                    return i;
                }
            }
            return -1;
        }

        int heightAt(int i) {
            return i >= 0 && i < MOST_POINTS ? heights[i] : 0;
        }

        void add(int place, int height) {
            if (held < MOST_POINTS) {
                places[held] = place;
                heights[held] = height;
                held++;
            }
        }

        // roots becomes the polynomial that is 0 at all places, through the one that has their heights.
        void interpolate(Polynomial roots, Polynomial through, Residues residues) {
            roots.becomeNumber(1);
            through.becomeNumber(0);
            for (int i = 0; i < held && i < MOST_POINTS; i++) {
                int missing = residues.of((long) heights[i] - through.valueAt(places[i], residues));
                int inverse = residues.inverse(roots.valueAt(places[i], residues));
                through.addMultiple(roots, residues.product(missing, inverse), 0, residues);
                roots.addRoot(places[i], residues);
            }
        }

        boolean allOn(Share candidate, Residues residues) {
            for (int i = 0; i < held && i < MOST_POINTS; i++) {
                int divisor = candidate.below.valueAt(places[i], residues);
                int due = residues.product(heights[i], divisor);
                if (divisor == 0 || candidate.above.valueAt(places[i], residues) != due) {
                    return false;
                }
            }
            return true;
        }

        long mixedInto(long start) {
            long h = start;
            for (int i = 0; i < held && i < MOST_POINTS; i++) {
                h = mixed(mixed(h, places[i]), heights[i]);
            }
            return h;
        }
    }

    /**
     * The share p by q of low degrees with q times start less p being a multiple of modulus:
     * every remainder of the two is such a p, and the first one that is low enough leaves q low enough.
     */
    private static final class Euclid {
        private final Polynomial modulus = new Polynomial();
        private final Polynomial start = new Polynomial();
        private final Polynomial startFactor = new Polynomial();
        private final Polynomial modulusFactor = new Polynomial();
        private final Polynomial quotient = new Polynomial();

        // Both modulus and start are used up.
        void findShare(int most, Share target, Residues residues) {
            Polynomial older = modulus;
            Polynomial newer = start;
            Polynomial olderFactor = modulusFactor;
            Polynomial newerFactor = startFactor;
            olderFactor.becomeNumber(0);
            newerFactor.becomeNumber(1);
            for (int step = 0; step < TERM_COUNT && newer.top() > most; step++) {
                older.divide(newer, quotient, residues);
                olderFactor.subtractProduct(quotient, newerFactor, residues);
                Polynomial remainder = older;
                older = newer;
                newer = remainder;
                Polynomial factor = olderFactor;
                olderFactor = newerFactor;
                newerFactor = factor;
            }
            target.above.become(newer);
            target.below.become(newerFactor);
            dropCommonFactors(target, residues);
        }

        private void dropCommonFactors(Share target, Residues residues) {
            Polynomial older = modulus;
            Polynomial newer = start;
            older.become(target.below);
            newer.become(target.above);
            for (int step = 0; step < TERM_COUNT && newer.top() >= 0; step++) {
                older.divide(newer, quotient, residues);
                Polynomial remainder = older;
                older = newer;
                newer = remainder;
            }
            target.above.divide(older, quotient, residues);
            target.above.become(quotient);
            target.below.divide(older, quotient, residues);
            target.below.become(quotient);
            int inverse = residues.inverse(target.below.lowestTerm());
            target.above.scale(inverse, residues);
            target.below.scale(inverse, residues);
        }
    }

    /** The square table of a worth, and its determinant by elimination. */
    private static final class Determinant {
        private final int[][] square = new int[MOST_LENGTH][MOST_LENGTH];

        void fill(Series asked, int l, int size) {
            for (int i = 0; i < size && i < MOST_LENGTH; i++) {
                for (int j = 0; j < size && j < MOST_LENGTH; j++) {
                    square[i][j] = asked.numbers.at(l + i - j);
                }
            }
        }

        int compute(int size, Residues residues) {
            int product = 1;
            for (int column = 0; column < size && column < MOST_LENGTH; column++) {
                int row = pivotRow(column, size);
                if (row < 0) {
                    return 0;
                }
                if (row != column) {
                    swapRows(row, column);
                    product = residues.negative(product);
                }
                product = residues.product(product, square[column][column]);
                clearBelow(column, size, residues);
            }
            return product;
        }

        private int pivotRow(int column, int size) {
            for (int row = column; row < size && row < MOST_LENGTH; row++) {
                if (square[row][column] != 0) {
                    return row;
                }
            }
            return -1;
        }

        private void swapRows(int a, int b) {
            int[] row = square[a];
            square[a] = square[b];
            square[b] = row;
        }

        private void clearBelow(int column, int size, Residues residues) {
            int inverse = residues.inverse(square[column][column]);
            for (int row = column + 1; row < size && row < MOST_LENGTH; row++) {
                int factor = residues.product(square[row][column], inverse);
                for (int j = column; j < size && j < MOST_LENGTH; j++) {
                    square[row][j] = residues.of(square[row][j] - (long) factor * square[column][j]);
                }
            }
        }
    }

    /** The shortest recurrence of a series, by the way of Berlekamp and Massey. */
    private static final class Recurrence {
        private final Polynomial first = new Polynomial();
        private final Polynomial second = new Polynomial();
        private final Polynomial third = new Polynomial();

        int least(Series asked, Residues residues) {
            Polynomial current = first;
            Polynomial earlier = second;
            Polynomial spare = third;
            current.becomeNumber(1);
            earlier.becomeNumber(1);
            int length = 0;
            int gap = 1;
            int earlierFault = 1;
            for (int k = 0; k <= asked.last; k++) {
                int fault = faultAt(k, length, current, asked, residues);
                if (fault != 0) {
                    int factor = residues.product(fault, residues.inverse(earlierFault));
                    spare.become(current);
                    current.addMultiple(earlier, residues.negative(factor), gap, residues);
                    if (2 * length <= k) {
                        length = k + 1 - length;
                        earlierFault = fault;
                        gap = 0;
                        Polynomial replaced = earlier;
                        earlier = spare;
                        spare = replaced;
                    }
                }
                gap++;
            }
            return length;
        }

        private int faultAt(int k, int length, Polynomial current, Series asked, Residues residues) {
            long sum = 0;
            for (int j = 0; j <= length; j++) {
                sum += (long) current.at(j) * asked.numbers.at(k - j);
            }
            return residues.of(sum);
        }
    }
}
