/** Promises 6 to 9: forget, remember, pass, ask. */
public final class ForgettingTest {
    private static final Class<IndexOutOfBoundsException> OUTSIDE = IndexOutOfBoundsException.class;
    private static final Class<IllegalStateException> NOT_NOW = IllegalStateException.class;

    public static void main(String[] args) {
        forget();
        forgetRefuses();
        remember();
        rememberRefuses();
        pass();
        passTakesTheLeastMissed();
        passRefuses();
        ask();
        askRefuses();
        Check.end("ForgettingTest");
    }

    private static void forget() {
        // Output 0 is the input 0; output 1 is the input 1 and does not care for the row 3.
        GateMaze maze = Mazes.of(2, "0101", "0012");
        Check.same("forget(0)", maze.forget(0), 4);
        Check.same("remembered", maze.count(1), 2);
        Check.same("decided of 0", Mazes.rows(maze, 0, 1), "3333");
        Check.same("decided of 1", Mazes.rows(maze, 1, 1), "0011");
        Check.same("forget(1)", maze.forget(1), 8);
        Check.same("decided of 1", Mazes.rows(maze, 1, 1), "3333");
        Check.same("decided of 2", Mazes.rows(maze, 2, 1), "0000");
        Check.same("remembered", maze.count(1), 0);
        Check.same("undo of forget", maze.undo(), 5);
        Check.same("remembered", maze.count(1), 2);
        Check.same("truths stay", Mazes.rows(maze, 1, 0), "0012");
        GateMaze free = Mazes.of(1, "22", "20", "12");
        Check.same("forget(0) with open truths", free.forget(0), 0);
        Check.same("free", Mazes.rows(free, 0, 1), "22");
        Check.same("an open truth is decided 0", Mazes.rows(free, 1, 1), "00");
        Check.same("an open truth is decided 1", Mazes.rows(free, 2, 1), "11");
        GateMaze large = Mazes.of(6);
        large.set(2, 63, 1);
        Check.same("forget(5)", large.forget(5), 2);
        Check.same("undecided rows", large.at(2, 31, 1) * 10 + large.at(2, 63, 1), 33);
        Check.same("forget(0)", large.forget(0), 4);
        Check.same("undecided row", large.at(2, 30, 1), 3);
    }

    private static void forgetRefuses() {
        GateMaze maze = Mazes.of(3, "01201201");
        maze.forget(2);
        Check.refused("forget(-1)", maze, OUTSIDE, () -> maze.forget(-1));
        Check.refused("forget(3) of three inputs", maze, OUTSIDE, () -> maze.forget(3));
        Check.refused("forget(34)", maze, OUTSIDE, () -> maze.forget(34));
        Check.refused("forget(2) twice", maze, NOT_NOW, () -> maze.forget(2));
        Check.same("saved states", maze.count(10), 6);
    }

    private static void remember() {
        GateMaze maze = Mazes.of(2, "0101", "0011");
        maze.forget(0);
        maze.forget(1);
        Check.same("remember(0)", maze.remember(0), 4);
        Check.same("remembered", maze.count(1), 1);
        Check.same("decided of 0", Mazes.rows(maze, 0, 1), "0101");
        Check.same("decided of 1", Mazes.rows(maze, 1, 1), "3333");
        Check.same("remember(1)", maze.remember(1), 0);
        Check.same("remembered", maze.count(1), 3);
        Check.same("undo of remember", maze.undo(), 5);
        Check.same("remembered", maze.count(1), 1);
    }

    private static void rememberRefuses() {
        GateMaze maze = Mazes.of(3, "01201201");
        maze.forget(1);
        Check.refused("remember(-1)", maze, OUTSIDE, () -> maze.remember(-1));
        Check.refused("remember(3) of three inputs", maze, OUTSIDE, () -> maze.remember(3));
        Check.refused("remember(33)", maze, OUTSIDE, () -> maze.remember(33));
        Check.refused("remember(0)", maze, NOT_NOW, () -> maze.remember(0));
        Check.refused("remember(2)", maze, NOT_NOW, () -> maze.remember(2));
    }

    private static void pass() {
        GateMaze maze = Mazes.of(3, "01010101");
        Check.same("pass(1)", maze.pass(1), 2);
        Check.same("of several the lowest that is missed least", maze.count(1), 5);
        Check.same("hours", maze.count(9), 1);
        Check.same("pass(6)", maze.pass(6), 0);
        Check.same("hours in which an input was forgotten", maze.count(9), 3);
        Check.same("undecided", maze.count(2), 8);
        int saved = maze.count(10);
        Check.same("pass with nothing remembered", maze.pass(2), 0);
        Check.same("hours", maze.count(9), 3);
        Check.same("it is saved all the same", maze.count(10), saved == 6 ? 6 : saved + 1);
        maze.undo();
        maze.undo();
        Check.same("undo of pass(6) as one call: remembered", maze.count(1), 5);
        Check.same("undo of pass(6): hours", maze.count(9), 1);
        Check.same("pass(6) of six inputs", Mazes.of(6).pass(6), 0);
        Check.same("pass(5) of six inputs", Mazes.of(6).pass(5), 1);
        GateMaze one = Mazes.of(1);
        Check.same("saved ahead of an empty pass", one.count(10), 1);
        one.pass(1);
        one.pass(1);
        Check.same("saved by an empty pass", one.count(10), 3);
    }

    private static void passTakesTheLeastMissed() {
        // By the input 0: 2 pairs of output 0. By the input 1: 2 pairs of output 0. By the input 2: none.
        GateMaze maze = Mazes.of(3, "11101110");
        Check.same("pass(1)", maze.pass(1), 2);
        Check.same("the input 2 is missed least", maze.count(1), 3);
        // Each hour looks anew: with the input 0 forgotten, output 0 (0 xor 1) misses 1 no more.
        GateMaze xor = Mazes.of(3, "01100110", "00001111", "00001111");
        Check.same("missed for 0", xor.ifForgotten(0, 0), 8);
        Check.same("missed for 2", xor.ifForgotten(2, 0), 16);
        Check.same("pass(2)", xor.pass(2), 1);
        Check.same("0 and then 1 are gone", xor.count(1), 4);
    }

    private static void passRefuses() {
        GateMaze maze = Mazes.of(3, "01201201");
        for (int hours : new int[] {0, 7, -1, Integer.MIN_VALUE, Integer.MAX_VALUE}) {
            Check.refused("pass(" + hours + ")", maze, IllegalArgumentException.class, () -> maze.pass(hours));
        }
    }

    private static void ask() {
        GateMaze maze = Mazes.of(3, "01000011", "01010101", "11111111", "00020000");
        Check.same("ask(1)", maze.ask(1), 7);
        Check.same("counts", maze.count(6) * 100 + maze.count(7) * 10 + maze.count(8), 100);
        maze.forget(0);
        Check.same("decided of 0", Mazes.rows(maze, 0, 1), "33000011");
        Check.same("answers of 0", Mazes.rows(maze, 0, 2), "00000011");
        Check.same("ask(1) undecided", maze.ask(1), 4);
        Check.same("counts", maze.count(6) * 100 + maze.count(7) * 10 + maze.count(8), 222);
        Check.same("ask(0): alarms without faults", maze.ask(0), 4);
        Check.same("counts", maze.count(6) * 100 + maze.count(7) * 10 + maze.count(8), 342);
        Check.same("ask(7): a fault of output 1", maze.ask(7), 5);
        Check.same("alarms of 0", maze.output(0, 8), 2);
        Check.same("faults of 0", maze.output(0, 9), 1);
        Check.same("alarms of 1", maze.output(1, 8), 3);
        Check.same("faults of 1", maze.output(1, 9), 2);
        Check.same("alarms of 2", maze.output(2, 8), 0);
        Check.same("alarms of 3", maze.output(3, 8), 0);
        Check.same("undo of ask", maze.undo(), 5);
        Check.same("counts", maze.count(6) * 100 + maze.count(7) * 10 + maze.count(8), 342);
        Check.same("alarms of 1", maze.output(1, 8), 2);
        Check.same("faults of 1", maze.output(1, 9), 1);
        askOfOpenTruths();
        askOfAnswerOne();
    }

    /** An undecided row whose very truth is open: an alarm, but no fault. */
    private static void askOfOpenTruths() {
        GateMaze maze = Mazes.of(2, "0211");
        maze.forget(0);
        maze.forget(1);
        Check.same("ask(1)", maze.ask(1), 0);
        Check.same("alarms", maze.count(7), 1);
        Check.same("faults", maze.count(8), 0);
        maze.begin(1);
        maze.set(0, 0, 2);
        Check.same("ask of a free row", maze.ask(0), 0);
        Check.same("no alarm of a free row", maze.count(7), 1);
    }

    /** An undecided row may be answered 1, where a product of the cover has it: a fault if its truth is 0. */
    private static void askOfAnswerOne() {
        // With the input 0 forgotten: rows 0 and 1 decided 1, 2 and 3 undecided, so the cover is the empty product.
        GateMaze maze = Mazes.of(2, "1101");
        maze.forget(0);
        Check.same("cover", Mazes.cover(maze, 0), "0/0");
        Check.same("ask(2)", maze.ask(2), 1);
        Check.same("fault", maze.output(0, 9), 1);
        Check.same("ask(3)", maze.ask(3), 1);
        Check.same("alarms", maze.output(0, 8), 2);
        Check.same("no other fault", maze.output(0, 9), 1);
    }

    private static void askRefuses() {
        GateMaze maze = Mazes.of(3, "01201201");
        maze.forget(0);
        maze.ask(7);
        Check.refused("ask(-1)", maze, OUTSIDE, () -> maze.ask(-1));
        Check.refused("ask(8) of three inputs", maze, OUTSIDE, () -> maze.ask(8));
        Check.refused("ask(64)", maze, OUTSIDE, () -> maze.ask(64));
        Check.same("asks", maze.count(6), 1);
        GateMaze large = Mazes.of(6);
        large.invert(3);
        Check.same("ask(63)", large.ask(63), 8);
        Check.refused("ask(64) of six inputs", large, OUTSIDE, () -> large.ask(64));
    }
}
