import com.sun.management.ThreadMXBean;
import java.lang.management.ManagementFactory;

/** All calls of a run live in one room, so a call makes next to nothing: what some 500 of the dearest ones make is weighed. */
public final class RoomTest {
    /** With the calls that prepare an object, 512 in all. */
    private static final int CALLS = 471;
    private static final long MOST_BYTES_OF_AN_OBJECT = 40_000;
    private static final long MOST_BYTES_OF_CALLS = 20_000;

    private static long bytesMade() {
        return ((ThreadMXBean) ManagementFactory.getThreadMXBean()).getThreadAllocatedBytes(Thread.currentThread().getId());
    }

    public static void main(String[] args) {
        // What the machine itself makes when it meets code for the first time is not weighed.
        weigh(false);
        weigh(true);
        Check.end("RoomTest");
    }

    private static void weigh(boolean look) {
        long start = bytesMade();
        GateMaze maze = new GateMaze();
        long made = bytesMade();
        int odd = prepare(maze);
        long before = bytesMade();
        long sum = 0;
        for (int call = 0; call < CALLS; call++) {
            sum += one(maze, call);
        }
        long after = bytesMade();
        if (look) {
            System.out.println("an object: " + (made - start) + " bytes, " + CALLS + " calls: " + (after - before) + " bytes");
            Check.holds("an object is small", made - start <= MOST_BYTES_OF_AN_OBJECT);
            Check.holds("calls make next to nothing", after - before <= MOST_BYTES_OF_CALLS);
            Check.holds("the calls answered", sum != 0 && odd == 128);
        }
    }

    /** The covers of odd and even rows are the longest ones. */
    private static int prepare(GateMaze maze) {
        maze.begin(6);
        for (int row = 0; row < 64; row++) {
            if (Integer.bitCount(row) % 2 == 1) {
                maze.set(0, row, 1);
            }
        }
        maze.join(1, 0);
        maze.invert(1);
        maze.join(2, 0);
        maze.join(3, 1);
        return maze.output(0, 0) + maze.output(1, 0) + maze.output(2, 0) + maze.output(3, 0);
    }

    private static long one(GateMaze maze, int call) {
        switch (call % 8) {
            case 0:
                return maze.set(call % 4, call % 64, call % 3);
            case 1:
                return maze.digest();
            case 2:
                return maze.ifForgotten(call % 6, 1);
            case 3:
                return maze.ask(call % 64);
            case 4:
                return maze.pass(1);
            case 5:
                return maze.undo();
            case 6:
                return maze.harmless();
            default:
                return maze.count(5);
        }
    }
}
