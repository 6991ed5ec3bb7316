import com.sun.management.ThreadMXBean;
import java.lang.management.ManagementFactory;

/** All calls of a run share one room: an object is small, and its calls make nothing. */
public final class RoomTest {
    private static final int CALLS = 512;
    /** The room holds 7.3 million elements; an object may take what 512 of them leave. */
    private static final long MOST_BYTES_AN_OBJECT = 4 * 7300000L / CALLS;

    /** Some 20 bytes a call: too few for a row, and above what the machine may make by itself. */
    private static final long MOST_BYTES_A_RUN = 10000;

    public static void main(String[] args) {
        ThreadMXBean bean = (ThreadMXBean) ManagementFactory.getThreadMXBean();
        oneRun(new ChainDesk());
        bean.getCurrentThreadAllocatedBytes();
        long start = bean.getCurrentThreadAllocatedBytes();
        ChainDesk desk = new ChainDesk();
        long made = bean.getCurrentThreadAllocatedBytes();
        long sum = oneRun(desk);
        long end = bean.getCurrentThreadAllocatedBytes();
        Check.due("the run was worked out", sum > 0 ? 1 : 0, 1);
        Check.due("an object is small", made - start <= MOST_BYTES_AN_OBJECT ? 1 : 0, 1);
        Check.due("its calls make few bytes", end - made < MOST_BYTES_A_RUN ? 1 : 0, 1);
        Check.end();
    }

    private static long oneRun(ChainDesk desk) {
        desk.begin(40);
        long sum = 0;
        for (int i = 0; i < 40; i++) {
            desk.whole(i, 2047);
            for (int j = 0; j < 6; j++) {
                desk.part(i, (i * 3 + j * 7) % 41, 100 + j);
            }
        }
        for (int call = 281; call < CALLS - 6; call += 6) {
            desk.part(call % 40, 40, call % 300);
            sum += desk.solve();
            sum += desk.print(call % 40) + desk.character(2);
            sum += desk.billionths(1) + desk.places(2, 1);
            sum += desk.compare(3, 4);
        }
        return sum;
    }
}
