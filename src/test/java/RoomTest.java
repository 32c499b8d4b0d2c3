import com.sun.management.ThreadMXBean;
import java.lang.management.ManagementFactory;

/** All calls of a run share one room: a new object takes a small part of it, and its calls take none. */
public final class RoomTest {
    private static final long ROOM_OF_ONE = 150_000;
    private static final long ROOM_OF_CALLS = 20_000;

    private RoomTest() {
    }

    public static void main(String[] args) {
        ThreadMXBean bean = (ThreadMXBean) ManagementFactory.getThreadMXBean();
        run(new WaitPlaces());
        long ahead = bean.getCurrentThreadAllocatedBytes();
        WaitPlaces x = new WaitPlaces();
        long made = bean.getCurrentThreadAllocatedBytes();
        run(x);
        long behind = bean.getCurrentThreadAllocatedBytes();
        Check.due("a new object takes " + (made - ahead) + " bytes; few", made - ahead <= ROOM_OF_ONE ? 1 : 0, 1);
        Check.due("its calls take " + (behind - made) + " bytes; hardly any", behind - made <= ROOM_OF_CALLS ? 1 : 0, 1);
        Check.end("RoomTest");
    }

    /** Some 500 calls, the dearest ones behind steps, so that they look anew. */
    private static void run(WaitPlaces x) {
        Check.tell(x, "tk0 1i0u1u1w1 0;ts0 1i1i0;tb1 1s0 0l1s0 1b1 0;tl1b0 1q1 0k0 2i1;");
        for (int n = 0; n < 40; n++) {
            x.step(n % 4);
            x.all(n % 4);
            x.worst(-1);
            x.worst(n % 10);
            x.can(n % 3, n % 2);
            x.slept();
            x.sees(n % 3, n % 4);
            x.unseen(n % 2);
            x.keep(n % 2);
            x.undo();
            x.back(n % 2);
        }
    }
}
