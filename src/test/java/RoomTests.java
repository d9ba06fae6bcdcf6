import java.lang.management.ManagementFactory;

/** All calls of a run live in one room: what the dearest calls allocate stays small. */
public final class RoomTests {
    /** Of a room of 7.3 million fields and elements, a text of 512 calls may take less than a third. */
    private static final long TEXT_BYTES = 4096;
    private static final long LITTLE = 100;
    private static final long NEW_BYTES = 200 * 1024;
    private static final com.sun.management.ThreadMXBean THREADS =
            (com.sun.management.ThreadMXBean) ManagementFactory.getThreadMXBean();

    public static void main(String[] args) {
        look("a new object", NEW_BYTES, () -> new Heapkeep());
        Heapkeep heap = full();
        look("digest", LITTLE, () -> heap.digest());
        look("shape", TEXT_BYTES, () -> heap.shape());
        look("row", TEXT_BYTES, () -> heap.row());
        look("free", TEXT_BYTES, () -> heap.free());
        look("would", TEXT_BYTES, () -> heap.would(true));
        look("keep", TEXT_BYTES, () -> heap.keep());
        look("back", LITTLE, () -> heap.back());
        look("same", LITTLE, () -> heap.same());
        look("collect", LITTLE, () -> heap.collect(false));
        look("isSound", LITTLE, () -> heap.isSound());
        look("ofObject", LITTLE, () -> heap.ofObject(3, 8));
        look("make", LITTLE, () -> heap.make(0, 0, false));
        look("local", LITTLE, () -> heap.local(0, -1));
        System.out.println("RoomTests: each call stays small");
    }

    /** Many objects, all reached. */
    private static Heapkeep full() {
        Heapkeep heap = new Heapkeep();
        heap.size(128);
        heap.make(0, 6, false);
        for (int i = 0; i < 40; i++) {
            int name = heap.make(1, 1, false);
            heap.store(name, 0, heap.localOf(0, 0));
            heap.local(0, name);
        }
        return heap;
    }

    /** The least of some calls, for the machine makes objects of its own as it gets to know a method. */
    private static void look(String what, long most, Runnable call) {
        long least = Long.MAX_VALUE;
        for (int turn = 0; turn < 10; turn++) {
            long before = THREADS.getThreadAllocatedBytes(Thread.currentThread().getId());
            call.run();
            least = Math.min(least, THREADS.getThreadAllocatedBytes(Thread.currentThread().getId()) - before);
        }
        if (least > most) {
            System.out.println("RoomTests: " + what + " takes " + least + " bytes, at most " + most + " are due");
            System.exit(1);
        }
    }
}
