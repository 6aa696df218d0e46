import java.lang.reflect.Method;
import java.lang.reflect.Modifier;
import java.util.ArrayList;
import java.util.Comparator;
import java.util.List;
import java.util.Random;

/** Runs of 512 calls end and never throw, whatever the calls are. */
public final class EndsTest {
    private static final int CALLS = 512;
    private static final int SECONDS = 300;
    private static final int[] EDGES = {Integer.MIN_VALUE, Integer.MIN_VALUE + 1, -30011, -2, -1, 0, 0, 0, 1, 1, 2, 3, 4, 5,
        9, 10, 19, 20, 39, 40, 41, 59, 60, 61, 30011, Integer.MAX_VALUE - 1, Integer.MAX_VALUE};
    private static final long[] LONG_EDGES = {Long.MIN_VALUE, -1, 0, 1, Long.MAX_VALUE, 1L << 32, 30011};

    public static void main(String[] args) throws ReflectiveOperationException {
        watch();
        Due due = new Due("EndsTest");
        List<Method> methods = new ArrayList<>();
        for (Method each : SharesOfSeries.class.getDeclaredMethods()) {
            if (Modifier.isPublic(each.getModifiers())) methods.add(each);
        }
        methods.sort(Comparator.comparing(Method::getName));
        for (int run = 0; run < 400; run++) anyCalls(methods, run);
        for (Method each : methods) oneCall(each);
        due.is("methods", 30, methods.size());
        due.end();
    }

    private static void watch() {
        Thread watcher = new Thread(() -> {
            try {
                Thread.sleep(SECONDS * 1000L);
            } catch (InterruptedException e) {
                return;
            }
            System.out.println("EndsTest: a run has not ended after " + SECONDS + " seconds");
            Runtime.getRuntime().halt(1);
        });
        watcher.setDaemon(true);
        watcher.start();
    }

    private static void anyCalls(List<Method> methods, int run) throws ReflectiveOperationException {
        Random random = new Random(run);
        SharesOfSeries x = run % 2 == 0 ? new SharesOfSeries() : heavy(run % 3 == 0 ? 2 : 30011);
        int used = run % 2 == 0 ? 0 : 132;
        for (int k = used; k < CALLS; k++) call(x, methods.get(random.nextInt(methods.size())), random);
    }

    // The same call again and again on an object that has as much as it can hold.
    private static void oneCall(Method method) throws ReflectiveOperationException {
        Random random = new Random(1);
        SharesOfSeries x = heavy(30011);
        for (int k = 132; k < CALLS; k++) call(x, method, random);
    }

    // 1 + 4 + 60 + 2 + 7 + 1 + 20 calls and some.
    private static SharesOfSeries heavy(int p) {
        SharesOfSeries x = Made.modulo(p);
        for (int s = 0; s < 4; s++) x.sheet(s, 3, 60);
        for (int i = 0; i < 60; i++) x.put(0, 3, i, 7919L * i * i + 31L * i + 1);
        x.series(0, 0, 40);
        x.series(0, 19, 40);
        for (int f = 0; f < 7; f++) x.times(f, f + 1);
        x.under(0);
        for (int i = 0; i < 20; i++) x.point(i, i * i * i + 5);
        x.join(10, 9);
        return x;
    }

    private static void call(SharesOfSeries x, Method method, Random random) throws ReflectiveOperationException {
        Object[] told = new Object[method.getParameterCount()];
        for (int i = 0; i < told.length; i++) {
            if (method.getParameterTypes()[i] == long.class) {
                told[i] = LONG_EDGES[random.nextInt(LONG_EDGES.length)];
            } else {
                told[i] = random.nextInt(5) == 0 ? random.nextInt() : EDGES[random.nextInt(EDGES.length)];
            }
        }
        method.invoke(x, told);
    }
}
