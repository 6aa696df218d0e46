import java.util.Random;

/** Long runs of mixed calls, each answered by the class and by the model, with the digest compared after each. */
public final class ModelTest {
    private static final int RUNS = 480, CALLS = 250;
    private static final int[] PRIMES = {2, 3, 5, 7, 11, 13, 23, 61, 101, 251, 1009, 30011, 29989};
    private static final int[] ODD = {-1, 0, 1, 40, 41, 42, 60, 61, Integer.MAX_VALUE, Integer.MIN_VALUE,
        Integer.MAX_VALUE - 1, Integer.MIN_VALUE + 1, -2, 100};
    private static final int KINDS = 30;

    private final Due due;
    private final Random random;
    private final SharesOfSeries real = new SharesOfSeries();
    private final Model model = new Model();
    private final int run;
    private long got;
    private long want;
    private String told;

    private ModelTest(Due due, int run) {
        this.due = due;
        this.run = run;
        this.random = new Random(7919L * run + 1);
    }

    public static void main(String[] args) {
        Due due = new Due("ModelTest");
        for (int run = 0; run < RUNS && !due.anyWrong(); run++) {
            new ModelTest(due, run).play();
        }
        due.end();
    }

    private void play() {
        int sort = run % 4;
        for (int k = 0; k < CALLS && !due.anyWrong(); k++) {
            if (k == 0) {
                prime(PRIMES[run % PRIMES.length]);
            } else if (sort < 3 && k < 70) {
                prepare(k);
            } else {
                any(random.nextInt(KINDS));
            }
            compare(k);
        }
    }

    private void compare(int k) {
        due.is("run " + run + " call " + k + " " + told, want, got);
        due.is("run " + run + " call " + k + " digest after " + told, model.digest(), real.digest());
    }

    // Sheets with many numbers first, so that later calls have something to work on.
    private void prepare(int k) {
        if (k == 1) {
            sheet(0, 2, 60);
        } else if (k == 2) {
            sheet(1, random.nextInt(4), 20 + random.nextInt(41));
        } else if (k < 64) {
            put(0, 2, k - 3 < 60 ? k - 3 : 0, cell(k));
        } else {
            series(0, random.nextInt(20), random.nextInt(41));
        }
    }

    // Numbers of many kinds: recurring ones, sparse ones, any ones.
    private long cell(int k) {
        switch (run % 5) {
            case 0:
                return random.nextInt(4) == 0 ? random.nextInt() : 0;
            case 1:
                return k < 5 ? random.nextInt(100) : model.number(0, 0) + (k % 4) * 7L;
            case 2:
                return random.nextLong();
            case 3:
                return k % 7 == 3 ? 1 : 0;
            default:
                return 1L << Math.min(k - 3, 40);
        }
    }

    private int small(int most) {
        return random.nextInt(20) == 0 ? ODD[random.nextInt(ODD.length)] : random.nextInt(most + 1);
    }

    private void any(int kind) {
        int f = small(model.series.size() + 1);
        int g = small(model.series.size() + 1);
        int known = model.length(f) < 0 ? 5 : model.length(f);
        int l = small(known);
        int m = random.nextInt(12) == 0 ? small(known) : small(Math.max(0, known - Math.min(Math.max(l, 0), known)));
        switch (kind) {
            case 0: prime(random.nextInt(6) == 0 ? PRIMES[random.nextInt(PRIMES.length)] : small(40000)); break;
            case 1: sheet(small(4), small(4), random.nextInt(3) > 0 ? 10 + random.nextInt(51) : small(62)); break;
            case 2: put(small(4), small(3), small(60), random.nextLong() >> random.nextInt(64)); break;
            case 3: putRight(); break;
            case 4: copy(small(4), small(20), small(4), small(20), small(40)); break;
            case 5: copySame(); break;
            case 6: lose(random.nextInt(3) > 0 ? 4 : small(4)); break;
            case 7: series(small(4), small(20), small(41)); break;
            case 8: share(small(4), small(10), small(8), small(8), small(41)); break;
            case 9: unfold(small(41)); break;
            case 10: plus(f, g, random.nextInt()); break;
            case 11: times(f, g); break;
            case 12: under(f); break;
            case 13: moved(f, random.nextInt(), small(6)); break;
            case 14: number(f, small(known + 1)); break;
            case 15: length(f); break;
            case 16: if (random.nextInt(3) == 0) clear(); else unfold(small(40)); break;
            case 17: case 18: entry(f, l, m); break;
            case 19: worth(f, l, m); break;
            case 20: block(f, l, m, small(3)); break;
            case 21: stair(f, small(Math.min(known + 1, 8))); break;
            case 22: recur(f); break;
            case 23: point(random.nextInt(3) == 0 ? small(25) : random.nextInt(), random.nextInt()); break;
            case 24: point(small(25), random.nextInt(2) == 0 ? 0 : model.value(random.nextInt(40))); break;
            case 25: joinRight(); break;
            case 26: if (random.nextInt(5) == 0) wipe(); else join(small(10), small(10)); break;
            case 27: if (random.nextBoolean()) degree(small(2)); else term(small(2), small(21)); break;
            case 28: value(random.nextInt()); break;
            default: told(); break;
        }
    }

    private void putRight() {
        int s = random.nextInt(4);
        put(s, model.lanes[s], model.sheets[s] == null ? 0 : small(model.sheets[s].length), random.nextLong());
    }

    private void copySame() {
        int s = random.nextInt(4);
        copy(s, random.nextInt(10), s, random.nextInt(10), random.nextInt(51));
    }

    private void joinRight() {
        int size = model.points.size();
        int l = size == 0 ? 0 : random.nextInt(size);
        join(l, size - 1 - l);
    }

    private void told() {
        switch (random.nextInt(3)) {
            case 0: told = "cause"; want = model.cause(); got = real.cause(); break;
            case 1: { int c = small(6); told = "causes " + c; want = model.causes(c); got = real.causes(c); break; }
            default: { int c = small(4); told = "count " + c; want = model.count(c); got = real.count(c); break; }
        }
    }

    private void answer(String call, long due, long answered, int... arguments) {
        StringBuilder text = new StringBuilder(call);
        for (int a : arguments) text.append(' ').append(a);
        told = text.toString();
        want = due;
        got = answered;
    }

    private void prime(int p) { answer("prime", model.prime(p), real.prime(p), p); }
    private void sheet(int s, int lane, int n) { answer("sheet", model.sheet(s, lane, n), real.sheet(s, lane, n), s, lane, n); }
    private void put(int s, int lane, int i, long v) {
        answer("put " + v, model.put(s, lane, i, v), real.put(s, lane, i, v), s, lane, i);
    }
    private void copy(int s, int i, int t, int j, int n) {
        answer("copy", model.copy(s, i, t, j, n), real.copy(s, i, t, j, n), s, i, t, j, n);
    }
    private void lose(int s) { answer("lose", model.lose(s), real.lose(s), s); }
    private void series(int s, int i, int n) { answer("series", model.series(s, i, n), real.series(s, i, n), s, i, n); }
    private void share(int s, int i, int l, int m, int n) {
        answer("share", model.share(s, i, l, m, n), real.share(s, i, l, m, n), s, i, l, m, n);
    }
    private void unfold(int n) { answer("unfold", model.unfold(n), real.unfold(n), n); }
    private void plus(int f, int g, int b) { answer("plus", model.plus(f, g, b), real.plus(f, g, b), f, g, b); }
    private void times(int f, int g) { answer("times", model.times(f, g), real.times(f, g), f, g); }
    private void under(int f) { answer("under", model.under(f), real.under(f), f); }
    private void moved(int f, int a, int k) { answer("moved", model.moved(f, a, k), real.moved(f, a, k), f, a, k); }
    private void number(int f, int k) { answer("number", model.number(f, k), real.number(f, k), f, k); }
    private void length(int f) { answer("length", model.length(f), real.length(f), f); }
    private void clear() { answer("clear", model.clear(), real.clear()); }
    private void entry(int f, int l, int m) { answer("entry", model.entry(f, l, m), real.entry(f, l, m), f, l, m); }
    private void worth(int f, int l, int m) { answer("worth", model.worth(f, l, m), real.worth(f, l, m), f, l, m); }
    private void block(int f, int l, int m, int what) {
        answer("block", model.block(f, l, m, what), real.block(f, l, m, what), f, l, m, what);
    }
    private void stair(int f, int k) { answer("stair", model.stair(f, k), real.stair(f, k), f, k); }
    private void recur(int f) { answer("recur", model.recur(f), real.recur(f), f); }
    private void point(int x, int y) { answer("point", model.point(x, y), real.point(x, y), x, y); }
    private void wipe() { answer("wipe", model.wipe(), real.wipe()); }
    private void join(int l, int m) { answer("join", model.join(l, m), real.join(l, m), l, m); }
    private void degree(int side) {
        answer("degree", model.degree(side), real.degree(side), side);
        due.is("run " + run + " " + told, want, got);
    }
    private void term(int side, int k) { answer("term", model.term(side, k), real.term(side, k), side, k); }
    private void value(int x) { answer("value", model.value(x), real.value(x), x); }
}
