import com.sun.management.ThreadMXBean;
import java.lang.management.ManagementFactory;

/** All calls of a run live in one room: what a new object takes of it, and that no call takes more. */
public final class RoomTest {
    private static final Due DUE = new Due();
    private static final ThreadMXBean THREADS = (ThreadMXBean) ManagementFactory.getThreadMXBean();

    public static void main(String[] args) {
        if (!THREADS.isThreadAllocatedMemorySupported()) {
            DUE.of("this machine can't tell what is made", 0, 0);
            DUE.end();
            return;
        }
        UnsoldAtEleven warm = Due.townOf("N3W0015G01");
        allCalls(warm);
        made();
        long before = made();
        long between = made();
        UnsoldAtEleven x = new UnsoldAtEleven();
        long object = made() - between;
        DUE.of("a new object takes " + object + " bytes", object < 100000 ? 1 : 0, 1);
        Due.write(x, "N3W0015G01G12C11");
        between = made();
        for (int i = 0; i < 12; i++) {
            allCalls(x);
        }
        long calls = made() - between;
        DUE.of("calls take " + calls + " bytes", calls < 2000 && before <= between ? 1 : 0, 1);
        DUE.end();
    }

    private static long made() {
        return THREADS.getThreadAllocatedBytes(Thread.currentThread().getId());
    }

    private static void allCalls(UnsoldAtEleven x) {
        x.write(1, 'K');
        x.fault();
        x.town();
        x.wants(0, 0, 0);
        x.about(0);
        x.sold(0, 9, true);
        x.out(0, 9, true);
        x.given(60, 0);
        x.earned(60, true);
        x.print();
        x.loss(60, 0, 30, true);
        x.see(0, 1);
        x.likely(0, true);
        x.likeliest();
        x.ask();
        x.unsee();
        x.best(1, 0, 202, 8, 6, true);
        x.now(1, 0, 202, 8, 6);
        x.day(1);
        x.gives(0, 3);
        x.more(0, 9);
        x.van(9, 1, 3);
        x.order(0, 0, 1);
        x.morning(0, 5, 0);
        x.ended(4);
        x.ranOut(0);
        x.habit(0);
        x.days(30);
        x.second(0, 2, 9, 1);
        x.paid(0, 5, 5);
        x.leastPay(0, 5, 99);
        x.keep(0);
        x.again(0);
        x.unorder();
        x.count(3);
        x.wipe();
    }
}
