import java.lang.management.ManagementFactory;

/**
 * All calls of a run share one room of some 7.3 million fields and elements, 600,000 objects. The dearest runs of
 * 512 calls stay far below: here by the bytes that they take, of which an element or field is 1 to 8 and an
 * object at least 16.
 */
public final class RoomTest {
    private static final long MOST_BYTES = 7_300_000L;
    private static long answers = 0;

    private RoomTest() {
    }

    public static void main(String[] args) {
        measure("longest passes again and again", RoomTest::longestPasses);
        measure("new objects alone", RoomTest::newObjects);
        measure("new objects that keep", RoomTest::objectsThatKeep);
        measure("new objects with longest passes", RoomTest::objectsThatPass);
        Script.end();
    }

    private static void measure(String name, Runnable run) {
        com.sun.management.ThreadMXBean bean =
                (com.sun.management.ThreadMXBean) ManagementFactory.getThreadMXBean();
        run.run();
        long before = bean.getCurrentThreadAllocatedBytes();
        run.run();
        long bytes = bean.getCurrentThreadAllocatedBytes() - before;
        System.out.println(name + ": " + bytes + " bytes");
        if (bytes > MOST_BYTES) {
            Script.tell(name + " takes " + bytes + " bytes, more than " + MOST_BYTES);
        }
    }

    private static TimerRows full() {
        TimerRows x = new TimerRows();
        for (int n = 0; n < 40; n++) {
            answers += x.set(0, n, 1, n % 3, 50);
        }
        return x;
    }

    private static void longestPasses() {
        TimerRows x = full();
        for (int n = 0; n < 40; n++) {
            answers += x.row(n, 1);
        }
        answers += x.keep();
        for (int n = 0; n < 215; n++) {
            answers += x.pass(0, 200);
            if (x.of(6) != 2080) {
                Script.tell("a longest pass answered " + x.of(6));
            }
            answers += x.back(0);
        }
    }

    private static void newObjects() {
        for (int n = 0; n < 512; n++) {
            answers += new TimerRows().of(0);
        }
    }

    private static void objectsThatKeep() {
        for (int n = 0; n < 128; n++) {
            TimerRows x = new TimerRows();
            answers += x.keep() + x.keep() + x.keep();
        }
    }

    private static void objectsThatPass() {
        for (int n = 0; n < 12; n++) {
            answers += full().pass(0, 200);
        }
    }
}
