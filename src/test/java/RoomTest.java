import com.sun.management.ThreadMXBean;
import java.lang.management.ManagementFactory;

/** An object's 512 calls take little room, however dear they are, and so does a mere object. */
public final class RoomTest {
    private static final ThreadMXBean THREADS =
            (ThreadMXBean) ManagementFactory.getThreadMXBean();

    private static long taken() {
        return THREADS.getThreadAllocatedBytes(Thread.currentThread().getId());
    }

    private static LazyHeaps dearShape() {
        LazyHeaps x = new LazyHeaps();
        for (int k = 0; k < 4; k++) {
            x.kind(-1);
        }
        x.field(2, 0, 0);
        x.field(2, 0, 3);
        x.field(2, 0, 2);
        x.field(2, 0, 1);
        x.field(3, 0, 1);
        x.input(2);
        x.input(0);
        return x;
    }

    private static int dearCalls() {
        LazyHeaps x = dearShape();
        int sum = 0;
        for (int n = 0; n < 60; n++) {
            sum += x.bound(1 + n % 5);
            sum += x.rule(1 + n % 2, 2, 2, -1);
            sum += x.kept();
            sum += x.step(n % 3 == 0 ? 2 : 0, 0, 2, n % 2, 0);
            sum += x.ends();
            sum += x.endOf(n) + x.end(n, 3) + x.rank();
            if (n % 6 == 5) {
                sum += x.clear() + x.erase();
            }
        }
        return sum;
    }

    private static int mereObject() {
        return new LazyHeaps().many();
    }

    public static void main(String[] args) {
        Checks checks = new Checks();
        // once before, so that what the machine itself loads is not counted
        int first = dearCalls() + mereObject();
        long before = taken();
        int second = dearCalls();
        long dear = taken() - before;
        before = taken();
        second += mereObject();
        long mere = taken() - before;
        System.out.println("dear calls took " + dear + " bytes, a mere object " + mere);
        checks.due("the same calls once more", second, first);
        checks.holds("dear calls take little room", dear < 1_000_000);
        checks.holds("a mere object takes little room", mere < 10_000);
        checks.finish("RoomTest");
    }
}
