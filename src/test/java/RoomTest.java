import com.sun.management.ThreadMXBean;
import java.lang.management.ManagementFactory;

/** What a run makes is counted in one room: calls make nothing, and an object is made of little. */
public final class RoomTest {
    private static final Due due = new Due("RoomTest");
    private static final ThreadMXBean BEAN = (ThreadMXBean) ManagementFactory.getThreadMXBean();

    public static void main(String[] args) {
        for (int i = 0; i < 20; i++) {
            busy(prepared(), 25);
        }
        LockerChains x = prepared();
        long before = bytes();
        busy(x, 200);
        long made = bytes() - before;
        // A single small array a call would come to more than 100,000.
        due.is("bytes made by calls, if many", made > 50_000 ? made : 0, 0);

        before = bytes();
        for (int i = 0; i < 100; i++) {
            x = new LockerChains();
        }
        long each = (bytes() - before) / 100;
        due.is("bytes of an object, if many", each > 20_000 ? each : 0, 0);
        due.end();
    }

    private static long bytes() {
        return BEAN.getThreadAllocatedBytes(Thread.currentThread().getId());
    }

    private static LockerChains prepared() {
        LockerChains x = Halls.with(10, 0, 0, 1, 1, 2, 2);
        Halls.type(x, "lend 0 0;lend 1 1;lend 2 2;lend 3 3;wish 0 1;wish 1 2;wish 2 0;swap;pass 99;");
        return x;
    }

    private static void busy(LockerChains x, int times) {
        for (int i = 0; i < times; i++) {
            x.fault(i % 3);
            x.play();
            x.undo();
            x.feeIn(i % 10, 99);
            x.wouldHave(i % 10);
            x.lend(i % 10, 3);
            x.wish(i % 10, 1);
            x.lose(i % 10);
            x.swap();
            x.pass(1);
            x.lentBits();
            x.overdueBits();
            x.giveBack(i % 10);
            x.undo();
            x.count(i % 23);
        }
    }
}
