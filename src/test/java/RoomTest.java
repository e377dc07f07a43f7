import java.lang.management.ManagementFactory;

/** All calls of a run live in one room: the dearest calls must make next to nothing. */
public final class RoomTest {
    private static final String RYES = "fence 6 6;" + "strip rye 99 0;".repeat(12);

    private RoomTest() {
    }

    public static void main(String[] args) {
        com.sun.management.ThreadMXBean threads =
            (com.sun.management.ThreadMXBean) ManagementFactory.getThreadMXBean();
        FenceYards[] objects = new FenceYards[10];
        for (int i = 0; i < objects.length; i++) {
            objects[i] = Due.groundOf(RYES);
            calls(objects[i], 1);
        }
        long before = threads.getCurrentThreadAllocatedBytes();
        for (FenceYards x : objects) {
            calls(x, 50);
        }
        long bytes = threads.getCurrentThreadAllocatedBytes() - before;
        Due.holds("500 times nine calls make less than 100,000 bytes, not " + bytes, bytes < 100000);
        Due.end();
    }

    private static void calls(FenceYards x, int times) {
        for (int i = 0; i < times; i++) {
            x.row(0, 0, 40);
            x.game(12, 0);
            x.treaty(12, 0);
            x.sow(0, 4, 99, 0, 12, 0);
            x.best(0, 12, 11);
            x.unseen(1, 1, 0);
            x.image(0);
            x.restore(0);
            x.ask(0, 0);
        }
    }
}
