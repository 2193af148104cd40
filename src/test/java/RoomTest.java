import com.sun.management.ThreadMXBean;
import java.lang.management.ManagementFactory;

/** All calls of a run live in one room of 7.3 million fields and elements: 512 dear calls must leave most of it. */
public final class RoomTest {
    private static final Due due = new Due();
    private static final ThreadMXBean BEAN = (ThreadMXBean) ManagementFactory.getThreadMXBean();

    private static long allocated() {
        return BEAN.getThreadAllocatedBytes(Thread.currentThread().getId());
    }

    /** A picture of 12 crossings with many STATES. */
    static int tangled(KnotTable x) {
        int p = House.knot(x, House.TREFOIL);
        int[] ends = {0, 5, 7, 2, 9, 11, 14, 3, 8};
        for (int k = 0; k < ends.length; k++) {
            x.does(p, x.move(0, ends[k], k % 4, 0));
        }
        return p;
    }

    private static long calls() {
        long before = allocated();
        KnotTable x = new KnotTable();
        int p = tangled(x);
        int m = x.move(0, 3, 1, 0);
        int u = x.move(5, 2, 0, 0);
        int c = House.knot(x, House.CIRCLE);
        for (int k = 0; k < 47; k++) {
            x.search(p, 5000);
            x.fewer();
            x.same(p, c, 5000);
            x.like(p, p);
            x.colours(p, 11);
            x.polynomial(p);
            x.book(c, k + 1);
            x.does(p, u);
            x.undo(p);
            x.may(p, m);
        }
        return allocated() - before;
    }

    public static void main(String[] args) {
        KnotTable first = new KnotTable();
        due.is("12 crossings", first.told(tangled(first), 0), 12);
        calls();
        long start = allocated();
        new KnotTable();
        long made = allocated() - start;
        long all = calls();
        due.holds("a new object takes little room: " + made + " bytes", made < 200000);
        due.holds("512 dear calls take little room: " + all + " bytes", all < 1000000);
        due.end("RoomTest");
    }
}
