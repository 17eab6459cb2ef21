/** Promises 1 to 5: a new object, begin, set, invert, join. */
public final class TruthsTest {
    private static final Class<IndexOutOfBoundsException> OUTSIDE = IndexOutOfBoundsException.class;
    private static final Class<IllegalArgumentException> UNSOUND = IllegalArgumentException.class;

    public static void main(String[] args) {
        newObject();
        begin();
        beginRefuses();
        set();
        setRefuses();
        invert();
        join();
        joinRefuses();
        Check.end("TruthsTest");
    }

    private static void newObject() {
        GateMaze maze = new GateMaze();
        Check.same("NONE", GateMaze.NONE, -1);
        Check.same("new: the counts", Mazes.counts(maze), "4 15 0 0 0 0 0 0 0 0 0");
        for (int output = 0; output < 4; output++) {
            Check.same("new: truths of " + output, Mazes.rows(maze, output, 0), "0".repeat(16));
            Check.same("new: numbers of " + output, Mazes.numbers(maze, output), "0 0 0 0 0 0 0 0 0 0 0");
        }
        Check.same("new: firstError", maze.firstError(), 0);
        Check.same("new: clearBuffer", maze.clearBuffer(), 0);
        Check.refused("new: undo", maze, IllegalStateException.class, maze::undo);
        Check.refused("new: fill", maze, UNSOUND, maze::fill);
    }

    private static void begin() {
        GateMaze maze = new GateMaze();
        maze.set(0, 5, 1);
        maze.set(0, 6, 2);
        maze.forget(0);
        maze.pass(1);
        maze.ask(5);
        Check.same("ahead of begin", maze.count(7), 1);
        Mazes.type(maze, "01");
        Check.same("begin(6)", maze.begin(6), 4);
        Check.same("behind begin(6): the counts", Mazes.counts(maze), "6 63 0 0 0 0 1 1 1 1 6");
        for (int output = 0; output < 4; output++) {
            Check.same("begin(6): truths of " + output, Mazes.rows(maze, output, 0), "0".repeat(64));
        }
        Check.same("the buffer stays with begin", maze.clearBuffer(), 2);
        Check.same("begin(1)", maze.begin(1), 6);
        Check.same("begin(1): remembered", maze.count(1), 1);
        Check.same("begin(1): rows", Mazes.rows(maze, 3, 0), "00");
        Check.refused("at(0, 2, 0) of one input", maze, OUTSIDE, () -> maze.at(0, 2, 0));
        Check.same("begin(1) again", maze.begin(1), 1);
        maze.undo();
        maze.undo();
        Check.same("undo of begin(1)", Mazes.counts(maze), "6 63 0 0 0 0 1 1 1 1 4");
        maze.undo();
        Check.same("undo of begin(6): inputs", maze.count(0), 4);
        Check.same("undo of begin(6): remembered", Integer.bitCount(maze.count(1)), 2);
        Check.same("undo of begin(6): truth", maze.at(0, 5, 0), 1);
        Check.same("undo of begin(6): open truth", maze.at(0, 6, 0), 2);
        Check.same("truths after begin of fewer, then more", afterFewerThenMore(), "0".repeat(64));
    }

    private static String afterFewerThenMore() {
        GateMaze maze = Mazes.of(6);
        for (int row = 0; row < 64; row += 7) {
            maze.set(1, row, 1 + row % 2);
        }
        maze.begin(2);
        maze.invert(1);
        maze.begin(6);
        return Mazes.rows(maze, 1, 0);
    }

    private static void beginRefuses() {
        GateMaze maze = Mazes.of(2, "0110");
        maze.forget(1);
        for (int inputs : new int[] {0, 7, -1, Integer.MIN_VALUE, Integer.MAX_VALUE}) {
            Check.refused("begin(" + inputs + ")", maze, UNSOUND, () -> maze.begin(inputs));
        }
        Check.same("truths behind refused begins", Mazes.rows(maze, 0, 0), "0110");
    }

    private static void set() {
        GateMaze maze = Mazes.of(3);
        Check.same("set(2, 7, 1)", maze.set(2, 7, 1), 0);
        Check.same("set(2, 7, 2)", maze.set(2, 7, 2), 1);
        Check.same("set(2, 0, 2)", maze.set(2, 0, 2), 0);
        Check.same("set(2, 7, 0)", maze.set(2, 7, 0), 2);
        Check.same("set(2, 7, 0) again", maze.set(2, 7, 0), 0);
        Check.same("set(2, 3, 1)", maze.set(2, 3, 1), 0);
        Check.same("saved states", maze.count(10), 6);
        Check.same("truths", Mazes.rows(maze, 2, 0), "20010000");
        Check.same("truths of another output", Mazes.rows(maze, 1, 0), "00000000");
        Check.same("undo of set", maze.undo(), 5);
        Check.same("undo of a set that changes nothing", maze.undo(), 4);
        Check.same("truths of before", Mazes.rows(maze, 2, 0), "20000000");
        Check.same("undo", maze.undo(), 3);
        Check.same("the open truth is back", Mazes.rows(maze, 2, 0), "20000002");
        GateMaze large = Mazes.of(6);
        large.set(3, 63, 1);
        large.set(3, 31, 2);
        Check.same("the last row of 64", Mazes.rows(large, 3, 0), "0".repeat(31) + "2" + "0".repeat(31) + "1");
    }

    private static void setRefuses() {
        GateMaze maze = Mazes.of(3, "01200210");
        Check.refused("set(-1, 0, 1)", maze, OUTSIDE, () -> maze.set(-1, 0, 1));
        Check.refused("set(4, 0, 1)", maze, OUTSIDE, () -> maze.set(4, 0, 1));
        Check.refused("set(0, -1, 1)", maze, OUTSIDE, () -> maze.set(0, -1, 1));
        Check.refused("set(0, 8, 1)", maze, OUTSIDE, () -> maze.set(0, 8, 1));
        Check.refused("set(0, 64, 1)", maze, OUTSIDE, () -> maze.set(0, 64, 1));
        Check.refused("set(0, 8, 3)", maze, OUTSIDE, () -> maze.set(0, 8, 3));
        Check.refused("set(4, 0, -1)", maze, OUTSIDE, () -> maze.set(4, 0, -1));
        Check.refused("set(0, 7, 3)", maze, UNSOUND, () -> maze.set(0, 7, 3));
        Check.refused("set(3, 0, -1)", maze, UNSOUND, () -> maze.set(3, 0, -1));
        Check.same("truths behind refused sets", Mazes.rows(maze, 0, 0), "01200210");
    }

    private static void invert() {
        GateMaze maze = Mazes.of(3, "00000000", "01201210");
        maze.forget(0);
        Check.same("invert(1)", maze.invert(1), 3);
        Check.same("inverted", Mazes.rows(maze, 1, 0), "10210201");
        Check.same("invert(0)", maze.invert(0), 8);
        Check.same("inverted", Mazes.rows(maze, 0, 0), "11111111");
        Check.same("invert(1) back", maze.invert(1), 3);
        Check.same("inverted twice", Mazes.rows(maze, 1, 0), "01201210");
        Check.same("undo of invert", maze.undo(), 5);
        Check.same("undone", Mazes.rows(maze, 1, 0), "10210201");
        Check.same("invert of the last output of 64 rows", Mazes.of(6).invert(3), 64);
        GateMaze open = Mazes.of(1, "22");
        Check.same("invert of open truths", open.invert(0), 0);
        Check.same("open truths stay", Mazes.rows(open, 0, 0), "22");
        Check.refused("invert(-1)", maze, OUTSIDE, () -> maze.invert(-1));
        Check.refused("invert(4)", maze, OUTSIDE, () -> maze.invert(4));
    }

    private static void join() {
        GateMaze maze = Mazes.of(4, "0120120120000000", "0001112220000000");
        Check.same("join(0, 1)", maze.join(0, 1), 5);
        Check.same("joined", Mazes.rows(maze, 0, 0), "0121112120000000");
        Check.same("the other one stays", Mazes.rows(maze, 1, 0), "0001112220000000");
        Check.same("undo of join", maze.undo(), 5);
        Check.same("undone", Mazes.rows(maze, 0, 0), "0120120120000000");
        Check.same("join(3, 0)", maze.join(3, 0), 3);
        Check.same("joined with zeros", Mazes.rows(maze, 3, 0), "0120120120000000");
    }

    private static void joinRefuses() {
        GateMaze maze = Mazes.of(2, "0120");
        Check.refused("join(4, 0)", maze, OUTSIDE, () -> maze.join(4, 0));
        Check.refused("join(0, 4)", maze, OUTSIDE, () -> maze.join(0, 4));
        Check.refused("join(-1, 0)", maze, OUTSIDE, () -> maze.join(-1, 0));
        Check.refused("join(0, -1)", maze, OUTSIDE, () -> maze.join(0, -1));
        Check.refused("join(4, 4)", maze, OUTSIDE, () -> maze.join(4, 4));
        Check.refused("join(-1, -1)", maze, OUTSIDE, () -> maze.join(-1, -1));
        Check.refused("join(0, 0)", maze, UNSOUND, () -> maze.join(0, 0));
        Check.refused("join(3, 3)", maze, UNSOUND, () -> maze.join(3, 3));
        Check.same("truths behind refused joins", Mazes.rows(maze, 0, 0), "0120");
    }
}
