import java.lang.management.ManagementFactory;
import java.util.Random;

/** That calls make no objects, that a new object is small, and that no arguments make a call throw. */
public final class RoomTests {
    private static final com.sun.management.ThreadMXBean THREADS =
        (com.sun.management.ThreadMXBean) ManagementFactory.getThreadMXBean();

    public static void main(String[] args) {
        room();
        dearest();
        wild();
        Check.end("RoomTests");
    }

    private static long made() {
        return THREADS.getThreadAllocatedBytes(Thread.currentThread().getId());
    }

    private static FlapBoard busy() {
        FlapBoard x = Boards.aimed("2 s01 t12 k23 q34 b45 f56 t67", 9, 9, 9, 9, 1, 9, 1);
        Boards.fill(x, 0, 1234567, 7654321, 5, 999, 9999999);
        Boards.fill(x, 1, 0, 0, 0);
        x.keep(0);
        return x;
    }

    private static void room() {
        for (String name : Calls.NAMES) {
            // The first time the machine itself makes things; they are none of the call's.
            bytesMadeBy(name, 1);
            // Asking how much was made makes a little, less than one object a call would be.
            long bytes = bytesMadeBy(name, 2);
            Check.holds(name + " makes no object, but " + bytes + " bytes", bytes < 39 * 16);
        }
        new FlapBoard();
        long before = made();
        FlapBoard x = new FlapBoard();
        long bytes = made() - before;
        Check.holds("a new object takes " + bytes + " bytes", bytes > 0 && bytes < 10000 && x.count(0) == 0);
    }

    private static long bytesMadeBy(String name, int seed) {
        Random lots = new Random(seed);
        FlapBoard x = busy();
        int[][] arguments = new int[40][];
        for (int i = 0; i < arguments.length; i++) {
            arguments[i] = Calls.arguments(lots, name, x);
        }
        Calls.call(x, name, arguments[0]);
        long before = made();
        for (int i = 1; i < arguments.length; i++) {
            Calls.call(x, name, arguments[i]);
        }
        return made() - before;
    }

    /** A whole life of the dearest calls stays well under a minute. */
    private static void dearest() {
        FlapBoard x = busy();
        long start = System.nanoTime();
        for (int i = 0; i < 512; i++) {
            x.duel(2);
        }
        long seconds = (System.nanoTime() - start) / 1000000000L;
        Check.holds("512 duels took " + seconds + " seconds", seconds < 60);
    }

    private static void wild() {
        for (int seed = 0; seed < 300; seed++) {
            Random lots = new Random(seed);
            FlapBoard x = seed % 3 == 0 ? new FlapBoard() : busy();
            String last = "";
            try {
                for (int i = 0; i < 512; i++) {
                    last = Calls.NAMES[lots.nextInt(Calls.NAMES.length)];
                    int[] arguments = Calls.arguments(lots, last, x);
                    if (lots.nextInt(3) == 0 && arguments.length > 0) {
                        arguments[lots.nextInt(arguments.length)] = lots.nextInt() >> lots.nextInt(32);
                    }
                    Calls.call(x, last, arguments);
                }
                Check.holds("run " + seed + " ends", true);
            } catch (RuntimeException thrown) {
                Check.holds("run " + seed + " does not throw " + thrown + " in " + last, false);
            }
        }
    }
}
