import java.lang.management.ManagementFactory;

/** All calls of a run live in one room, so no call makes an object: the dearest ones, many times over. */
public final class RoomTest {
    /** With the set-up, no more than the 512 calls for which an object is used. */
    private static final int TIMES = 20;
    private static final long ROOM = 2_000;

    public static void main(String[] args) {
        BoardNotation x = Due.chess();
        Due.put(x, "a1", 1, 0);
        Due.put(x, "h8", 1, 1);
        Due.put(x, "e1", 0, 0);
        Due.put(x, "e8", 0, 1);
        for (int node = 1; node < 200; node++) {
            Boards.shuttle(x, node);
        }
        calls(x);
        com.sun.management.ThreadMXBean threads = (com.sun.management.ThreadMXBean) ManagementFactory.getThreadMXBean();
        long self = Thread.currentThread().getId();
        long before = threads.getThreadAllocatedBytes(self);
        for (int k = 0; k < TIMES; k++) {
            calls(x);
        }
        long made = threads.getThreadAllocatedBytes(self) - before;
        if (made > ROOM) {
            Due.tell("the calls made " + made + " bytes of objects");
        }
        Due.end();
    }

    private static void calls(BoardNotation x) {
        x.writeGame();
        x.readGame();
        x.digest();
        x.state(2);
        x.branching();
        x.promote(100);
        x.goTo(0);
        x.write(0, 8);
        x.read();
        x.feed(1, 2, 3, 4);
        x.empty();
        x.goTo(199);
    }
}
