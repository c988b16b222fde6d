import com.sun.management.ThreadMXBean;
import java.lang.management.ManagementFactory;

/** All calls of a run live in one room that is never cleared: the calls make next to nothing. */
public final class RoomTest {
    private static final ThreadMXBean threads = (ThreadMXBean) ManagementFactory.getThreadMXBean();
    private static final Due due = new Due("RoomTest");

    public static void main(String[] args) {
        fill(new ArmCounts()); // so that loading the classes is not counted
        long before = made();
        ArmCounts x = new ArmCounts();
        long object = made() - before;
        due.holds("a new object takes " + object + " bytes", object < 20_000);
        long calls = 0;
        for (int i = 0; i < 200; i++) {
            // few rounds on each, since an object is used for at most 512 calls
            ArmCounts filled = new ArmCounts();
            fill(filled);
            before = made();
            dearest(filled, i);
            dearest(filled, i + 1);
            calls += made() - before;
        }
        due.holds("400 rounds of the dearest calls take " + calls + " bytes", calls < 10_000);
        due.end();
    }

    private static long made() {
        return threads.getThreadAllocatedBytes(Thread.currentThread().getId());
    }

    private static void fill(ArmCounts x) {
        for (int c = 0; c < 6; c++) {
            Due.count(x, true, Due.row(21, c));
        }
        for (int p = 0; p < 8; p++) {
            x.person(p % 6);
            Due.list(x, 100 * p, Due.row(30, p));
        }
        x.mat(40);
        for (int i = 0; i < 8; i++) {
            x.sum(i % 3, (i + 1) % 3, (i + 2) % 3);
        }
        Due.type(x, "m12p1+m13p2-m14p3");
    }

    private static void dearest(ArmCounts x, int i) {
        x.solutions();
        x.solution(9, 1);
        x.sure(1);
        x.quarrel();
        x.trap(0, 1);
        x.clear(0, 1, 400);
        x.gift(i % 8, (i + 1) % 8, 3);
        x.close();
        x.mother(7);
        x.strange(7);
        x.age(7);
        x.slips(6, 7);
        x.sheet(0, 2, 60);
        x.write(0, 0, 1, 1);
        x.readings(0, 30);
        x.reading(0, 30, 99);
        x.speech(0);
        x.digest();
    }
}
