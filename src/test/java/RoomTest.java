import java.lang.management.ManagementFactory;

/** All calls of a run live in one room, so no call makes an object: the dearest ones, many times over. */
public final class RoomTest {
    private static final int TIMES = 200;
    private static final long ROOM = 100_000;

    public static void main(String[] args) {
        BoardNotation x = Due.chess();
        Due.put(x, "a1", 1, 0);
        Due.put(x, "h8", 1, 1);
        Due.put(x, "e1", 0, 0);
        Due.put(x, "e8", 0, 1);
        String[][] moves = {{"a1", "a2"}, {"h8", "h7"}, {"a2", "a1"}, {"h7", "h8"}};
        for (int node = 1; node < 200; node++) {
            Due.play(x, moves[(node - 1) % 4][0], moves[(node - 1) % 4][1]);
        }
        calls(x);
        com.sun.management.ThreadMXBean threads = (com.sun.management.ThreadMXBean) ManagementFactory.getThreadMXBean();
        long self = Thread.currentThread().getId();
        long before = threads.getThreadAllocatedBytes(self);
        for (int k = 0; k < TIMES; k++) {
            calls(x);
        }
        long made = threads.getThreadAllocatedBytes(self) - before;
        if (made > ROOM) {
            Due.tell("the calls made " + made + " bytes of objects");
        }
        Due.end();
    }

    private static void calls(BoardNotation x) {
        x.writeGame();
        x.readGame();
        x.digest();
        x.state(2);
        x.branching();
        x.promote(100);
        x.goTo(0);
        x.write(0, 8);
        x.read();
        x.feed(1, 2, 3, 4);
        x.empty();
        x.goTo(199);
    }
}
