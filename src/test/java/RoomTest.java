import com.sun.management.ThreadMXBean;
import java.lang.management.ManagementFactory;

/** Objects are small, and calls use the rows that the constructor made. */
public final class RoomTest {
    private static final ThreadMXBean ROOM = (ThreadMXBean) ManagementFactory.getThreadMXBean();
    private static final long MOST_BYTES_OF_AN_OBJECT = 40_000, MOST_BYTES_OF_A_RUN = 20_000;

    public static void main(String[] args) {
        Due due = new Due("RoomTest");
        dearestCalls(new SharesOfSeries());
        long before = used();
        SharesOfSeries x = new SharesOfSeries();
        long made = used() - before;
        due.holds("an object takes " + made + " bytes", made <= MOST_BYTES_OF_AN_OBJECT);
        before = used();
        dearestCalls(x);
        long called = used() - before;
        due.holds("a run takes " + called + " bytes", called <= MOST_BYTES_OF_A_RUN);
        due.end();
    }

    private static long used() {
        return ROOM.getThreadAllocatedBytes(Thread.currentThread().getId());
    }

    private static void dearestCalls(SharesOfSeries x) {
        x.sheet(0, 3, 60);
        for (int i = 0; i < 60; i++) x.put(0, 3, i, 7919L * i * i + 31L * i + 1);
        for (int i = 0; i < 20; i++) x.point(i, i * i * i + 5);
        for (int round = 0; round < 20; round++) {
            x.sheet(1, round % 4, 60);
            x.clear();
            x.series(0, 0, 40);
            x.share(0, 0, 20, 20, 40);
            x.plus(0, 1, 5);
            x.times(0, 1);
            x.under(0);
            x.moved(0, 3, 1);
            x.entry(0, 20, 20);
            x.unfold(40);
            x.worth(0, 0, 40);
            x.worth(0, 20, 20);
            x.block(0, 20, 20, 2);
            x.stair(0, 40);
            x.recur(0);
            x.join(10, 9);
            x.value(round);
            x.copy(0, 0, 0, 20, 40);
            x.digest();
            x.lose(1);
        }
    }
}
