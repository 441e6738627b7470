import com.sun.management.ThreadMXBean;
import java.lang.management.ManagementFactory;

/** All calls of a run live in one room: what a desk holds is small, and no later call makes more. */
public final class RoomTest {
    private static final int MOST_OBJECTS = 60;
    private static final int MOST_CELLS = 600;

    /** Far above what the measuring itself makes, far below a row made by each step. */
    private static final long MOST_BYTES = 100_000L;

    private static final Due DUE = new Due("RoomTest");

    public static void main(String[] args) {
        deskIsSmall();
        callsKeepNothing();
        callsMakeNothing();
        DUE.end();
    }

    private static void deskIsSmall() {
        DUE.about("some 600,000 objects and arrays, 7.3 million fields and elements in all: a new desk");
        Inside inside = new Inside(new LadderDesk());
        DUE.truth(inside.objects() + " objects and arrays", inside.objects() <= MOST_OBJECTS);
        DUE.truth(inside.cells() + " fields and elements", inside.cells() <= MOST_CELLS);
    }

    private static void callsKeepNothing() {
        DUE.about("make rows in constructors and use them again: what is held after 512 calls");
        LadderDesk desk = new LadderDesk();
        Inside before = new Inside(desk);
        manyCalls(desk);
        Inside behind = new Inside(desk);
        DUE.same("objects and arrays", behind.objects(), before.objects());
        DUE.same("fields and elements", behind.cells(), before.cells());
    }

    private static void callsMakeNothing() {
        DUE.about("make rows in constructors and use them again: what 512 calls make");
        manyCalls(new LadderDesk());
        LadderDesk desk = new LadderDesk();
        long before = bytesMade();
        manyCalls(desk);
        long made = bytesMade() - before;
        DUE.truth(made + " bytes", made <= MOST_BYTES);
    }

    /** 512 calls, every kind of call and the dearest ones among them. */
    private static void manyCalls(LadderDesk desk) {
        for (int round = 0; round < 32; round++) {
            desk.scalar(round & 3, -round);
            desk.point(round & 3, round);
            desk.start();
            desk.step(100);
            desk.step(155);
            desk.part(round % 5, 1);
            desk.finish();
            desk.check();
            desk.phase();
            desk.out(0);
            desk.told(2, 3);
            desk.told(3, 0);
            desk.count(1);
            desk.part(4, 0);
            desk.again();
            desk.reset();
        }
    }

    private static long bytesMade() {
        ThreadMXBean threads = (ThreadMXBean) ManagementFactory.getThreadMXBean();
        return threads.getThreadAllocatedBytes(Thread.currentThread().getId());
    }
}
