import com.sun.management.ThreadMXBean;
import java.lang.management.ManagementFactory;

/** An object's 512 calls take little room, however dear they are, and so does a mere object. */
public final class RoomTest extends Bench {
    private static final ThreadMXBean THREADS =
            (ThreadMXBean) ManagementFactory.getThreadMXBean();

    private static long taken() {
        return THREADS.getThreadAllocatedBytes(Thread.currentThread().getId());
    }

    /** What was there for long rows is found anew again and again, as shape and program change. */
    private int longRowsAnew() {
        longRows();
        int sum = 0;
        for (int n = 0; n < 50; n++) {
            sum += x.bound(1 + n % 5);
            sum += x.rule(1 + n % 2, 2, 2, NONE);
            sum += x.kept();
            sum += x.step(n % 3 == 0 ? 2 : 0, 0, 2, n % 2, 0);
            sum += x.ends();
            sum += x.endOf(n) + x.end(n, 3) + x.rank();
            if (n % 6 == 5) {
                sum += x.clear() + x.erase();
            }
        }
        return sum;
    }

    /** As many rows as there may be, with nearly as many ends. */
    private int mostRowsAnew() {
        fourThousand();
        for (int f = 0; f < 4; f++) {
            x.step(1, 1, f, 0, 0);
        }
        for (int f = 0; f < 3; f++) {
            x.step(1, 0, f, 0, 0);
        }
        int sum = 0;
        for (int n = 0; n < 160; n++) {
            sum += x.bound(2 + n % 2);
            sum += x.ends();
            sum += x.kept();
        }
        return sum;
    }

    private int mereObject() {
        anew();
        return x.many();
    }

    private int calls(int which) {
        switch (which) {
            case 0:
                return longRowsAnew();
            case 1:
                return mostRowsAnew();
            default:
                return mereObject();
        }
    }

    private void dueRoom(int which, String what, long most) {
        // once before, so that what the machine itself loads is not counted
        int first = calls(which);
        long before = taken();
        int second = calls(which);
        long room = taken() - before;
        System.out.println(what + ": " + room + " bytes");
        due(first, second);
        checks.holds(what + " take at most " + most + " bytes", room <= most);
    }

    public static void main(String[] args) {
        RoomTest test = new RoomTest();
        test.dueRoom(0, "long rows anew", 1_000_000);
        test.dueRoom(1, "most rows anew", 1_000_000);
        test.dueRoom(2, "a mere object", 10_000);
        test.checks.finish("RoomTest");
    }
}
