import java.lang.reflect.Method;
import java.lang.reflect.Modifier;
import java.util.HashMap;
import java.util.Map;

/**
 * Every call with every choice of values at and around its boundaries, in an empty object, an ordinary one and a full
 * one, each answered by the class and by the model: so every set of refusals and CAUSES that can hold at once occurs.
 */
public final class EdgeGridTest {
    private static final Due DUE = new Due("EdgeGridTest");
    private static final int STATES = 3, MOST_CALLS = 480;
    private static final int LOW = Integer.MIN_VALUE, HIGH = Integer.MAX_VALUE;
    private static final long[] SHEETS = {-1, 0, 1, 2, 3, 4}, LANES = {-1, 0, 1, 2, 3, 4};
    private static final long[] PLACES = {LOW, -1, 0, 1, 5, 6, 7, HIGH}, FEW = {LOW, -1, 0, 1, 6, 7, HIGH};
    private static final long[] LENGTHS = {LOW, -1, 0, 1, 5, 40, 41, HIGH}, SERIES = {LOW, -1, 0, 1, 2, 3, 9, 10, HIGH};
    private static final long[] PAIRS = {LOW, -1, 0, 1, 2, 3, 5, 6, HIGH}, ANY = {LOW, -30011, -1, 0, 1, 2, 30010, 30011, HIGH};
    private static final long[] WHATS = {LOW, -1, 0, 1, 2, 3, 4, 5, 6, HIGH}, TERMS = {LOW, -1, 0, 1, 39, 40, 41, 42, HIGH};
    private static final long[] LONGS = {Long.MIN_VALUE, -129, 128, 32768, 1L << 31, Long.MAX_VALUE};

    private final Map<String, Method> real = new HashMap<>();
    private final Map<String, Method> modelled = new HashMap<>();
    private SharesOfSeries object;
    private Model model;
    private int used;

    public static void main(String[] args) throws ReflectiveOperationException {
        EdgeGridTest test = new EdgeGridTest();
        for (int state = 0; state < STATES; state++) test.allCalls(state);
        DUE.is("calls", 30, test.real.size());
        DUE.end();
    }

    private EdgeGridTest() throws ReflectiveOperationException {
        for (Method each : SharesOfSeries.class.getDeclaredMethods()) {
            if (!Modifier.isPublic(each.getModifiers())) continue;
            real.put(each.getName(), each);
            modelled.put(each.getName(), Model.class.getDeclaredMethod(each.getName(), each.getParameterTypes()));
        }
    }

    private void allCalls(int state) throws ReflectiveOperationException {
        grid(state, "prime", new long[] {LOW, -2, -1, 0, 1, 2, 3, 4, 9, 29989, 30010, 30011, 30012, 30013, HIGH});
        grid(state, "sheet", SHEETS, LANES, new long[] {LOW, -1, 0, 1, 59, 60, 61, HIGH});
        grid(state, "put", SHEETS, LANES, new long[] {LOW, -1, 0, 5, 6, 59, 60, HIGH}, LONGS);
        grid(state, "copy", SHEETS, PLACES, SHEETS, FEW, FEW);
        grid(state, "lose", SHEETS);
        grid(state, "series", SHEETS, PLACES, LENGTHS);
        grid(state, "share", SHEETS, PLACES, LENGTHS, LENGTHS, new long[] {-1, 0, 40, 41});
        grid(state, "unfold", LENGTHS);
        grid(state, "plus", SERIES, SERIES, ANY);
        grid(state, "times", SERIES, SERIES);
        grid(state, "under", SERIES);
        grid(state, "moved", SERIES, ANY, LENGTHS);
        grid(state, "number", SERIES, TERMS);
        grid(state, "length", SERIES);
        grid(state, "clear");
        grid(state, "entry", SERIES, PAIRS, PAIRS);
        grid(state, "worth", SERIES, PAIRS, PAIRS);
        grid(state, "block", SERIES, PAIRS, PAIRS, new long[] {LOW, -1, 0, 1, 2, 3, HIGH});
        grid(state, "stair", SERIES, PAIRS);
        grid(state, "recur", SERIES);
        grid(state, "point", ANY, ANY);
        grid(state, "wipe");
        grid(state, "join", new long[] {LOW, -1, 0, 1, 2, 18, 19, 20, HIGH}, new long[] {LOW, -1, 0, 1, 2, 18, 19, 20, HIGH});
        grid(state, "degree", WHATS);
        grid(state, "term", WHATS, TERMS);
        grid(state, "value", ANY);
        grid(state, "cause");
        grid(state, "causes", WHATS);
        grid(state, "count", WHATS);
        grid(state, "digest");
    }

    private void grid(int state, String call, long[]... values) throws ReflectiveOperationException {
        int choices = 1;
        for (long[] each : values) choices *= each.length;
        renew(state);
        for (int choice = 0; choice < choices && !DUE.anyWrong(); choice++) {
            long[] told = new long[values.length];
            int rest = choice;
            for (int i = 0; i < values.length; i++) {
                told[i] = values[i][rest % values[i].length];
                rest /= values[i].length;
            }
            one(state, call, told);
        }
    }

    private void one(int state, String call, long... told) throws ReflectiveOperationException {
        String what = "state " + state + ", " + call + " " + java.util.Arrays.toString(told);
        long before = model.digest();
        long want = answer(modelled.get(call), model, told);
        long got = answer(real.get(call), object, told);
        DUE.is(what, want, got);
        long after = model.digest();
        DUE.is(what + ", digest", after, object.digest());
        DUE.is(what + ", cause", model.cause(), object.cause());
        used += 3;
        boolean refused = want <= Made.NULL && !call.equals("digest");
        if (refused) DUE.is(what + ", nothing changes", before, after);
        if (after != before || used > MOST_CALLS) {
            for (int c = 1; c <= 5; c++) DUE.is(what + ", causes " + c, model.causes(c), object.causes(c));
            renew(state);
        }
    }

    private static long answer(Method method, Object target, long... told) throws ReflectiveOperationException {
        Object[] arguments = new Object[told.length];
        for (int i = 0; i < told.length; i++) {
            if (method.getParameterTypes()[i] == long.class) arguments[i] = told[i];
            else arguments[i] = (int) told[i];
        }
        return ((Number) method.invoke(target, arguments)).longValue();
    }

    private void both(String call, long... told) throws ReflectiveOperationException {
        answer(modelled.get(call), model, told);
        answer(real.get(call), object, told);
        used++;
    }

    // State 0 is a new object; 1 has some of everything; 2 has all there can be but for SHEET 3, and 1 by x.
    private void renew(int state) throws ReflectiveOperationException {
        object = new SharesOfSeries();
        model = new Model();
        used = 0;
        if (state == 0) return;
        both("sheet", 0, 2, 6);
        long[] numbers = {1, 3, 0, 0, 30011, -5};
        for (int i = 0; i < 6; i++) both("put", 0, 2, i, numbers[i]);
        both("sheet", 1, 2, 60);
        for (int i = 0; i < 60; i++) both("put", 1, 2, i, i * i + 1);
        both("sheet", 2, 1, state == 1 ? 0 : 6);
        both("series", 0, 0, 5);
        both("series", 0, 2, 3);
        both("series", 1, 0, state == 1 ? 5 : 40);
        both("point", 1, 1);
        both("point", -1, -1);
        if (state == 1) both("entry", 0, 1, 2);
        else fill();
    }

    private void fill() throws ReflectiveOperationException {
        both("join", 0, 1);
        for (int f = 3; f < 10; f++) both("moved", 0, f, f % 2);
        for (int i = 2; i < 20; i++) both("point", i, i * i);
    }
}
