import com.sun.management.ThreadMXBean;
import java.lang.management.ManagementFactory;

/** All calls of one run live in one room: a new object stays small, and no call makes anything. */
public final class RowFinderRoom {
    private static final long MOST_BYTES_OF_ONE = 40000;
    private static final long SLACK = 20000;
    private static final int NONE = -1;

    private static final ThreadMXBean BEAN = (ThreadMXBean) ManagementFactory.getThreadMXBean();

    private static long made() {
        return BEAN.getThreadAllocatedBytes(Thread.currentThread().getId());
    }

    /** Each call, many times, but at most 512 in all. */
    private static long allCalls(RowFinder x) {
        long sum = 0;
        for (int r = 0; r < 8; r++) {
            sum += x.row(r % 2);
            for (int i = 0; i < 30; i++) {
                sum += x.put(r, i * 5, (i * 7 + r * r) % 16);
            }
        }
        sum += x.under(3, 2) ? 1 : 0;
        sum += x.find(3, 4) + x.best();
        for (int i = 0; i < 17; i++) {
            sum += x.closed(i * 115) + x.found(i, 0) + x.tell(i) + x.look(i, 0, 0) + x.isUnder(i, 2);
            sum += x.count(i % 16, 1, 2, 3) + x.matches(0, 1, i % 16, 3, NONE) + x.match(0, 1, 2, 3, 4, 0);
            sum += x.expected(i, 1) + x.share(1, i, 2, NONE) + x.lacking(1, 2, 3, 4, i) + x.sure(i, 1, 2, 3, NONE);
            sum += (x.take(i, false) ? 1 : 0) + (x.gap(i) ? 1 : 0) + (x.span(500 - i) ? 1 : 0);
        }
        return sum;
    }

    public static void main(String[] args) {
        allCalls(new RowFinder());
        long before = made();
        RowFinder x = new RowFinder();
        long between = made();
        allCalls(x);
        long after = made();
        System.out.println("a new object took " + (between - before) + " bytes, all calls " + (after - between));
        if (between - before > MOST_BYTES_OF_ONE || after - between > SLACK) {
            System.out.println("that is more than " + MOST_BYTES_OF_ONE + ", or than " + SLACK);
            System.exit(1);
        }
    }
}
