/** Promises 15 to 18: at, output, product, count. */
public final class NumbersTest {
    private static final Class<IndexOutOfBoundsException> OUTSIDE = IndexOutOfBoundsException.class;
    private static final Class<IllegalArgumentException> UNSOUND = IllegalArgumentException.class;

    public static void main(String[] args) {
        at();
        atOfAlikeRows();
        atRefuses();
        output();
        outputOfEdges();
        outputRefuses();
        coverOrder();
        coverTakesTurns();
        product();
        productOfSixInputs();
        productRefuses();
        count();
        countRefuses();
        Check.end("NumbersTest");
    }

    private static void at() {
        GateMaze maze = Mazes.of(2, "0112", "2222", "0000");
        Check.same("truths", Mazes.rows(maze, 0, 0), "0112");
        Check.same("decided", Mazes.rows(maze, 0, 1), "0112");
        Check.same("answers", Mazes.rows(maze, 0, 2), "0111");
        Check.same("decided where all are free", Mazes.rows(maze, 1, 1), "2222");
        Check.same("answers where all are free", Mazes.rows(maze, 1, 2), "0000");
        Check.same("decided where all are 0", Mazes.rows(maze, 2, 1), "0000");
        maze.forget(0);
        Check.same("truths stay", Mazes.rows(maze, 0, 0), "0112");
        Check.same("decided with the input 0 forgotten", Mazes.rows(maze, 0, 1), "3311");
        Check.same("answers with the input 0 forgotten", Mazes.rows(maze, 0, 2), "1111");
        maze.remember(0);
        maze.forget(1);
        Check.same("decided with the input 1 forgotten", Mazes.rows(maze, 0, 1), "3131");
        maze.undo();
        Check.same("decided behind undo", Mazes.rows(maze, 0, 1), "0112");
        maze.invert(0);
        Check.same("decided behind invert", Mazes.rows(maze, 0, 1), "1002");
        Check.same("answers behind invert", Mazes.rows(maze, 0, 2), "1000");
        maze.join(2, 0);
        Check.same("answers behind join", Mazes.rows(maze, 2, 2), "1000");
        Mazes.fill(maze, "11=2:1");
        Check.same("answers behind fill", Mazes.rows(maze, 2, 2), "1001");
        maze.pass(2);
        Check.same("decided behind pass", Mazes.rows(maze, 2, 1), "3333");
        maze.set(2, 1, 1);
        maze.set(2, 2, 1);
        Check.same("decided behind set", Mazes.rows(maze, 2, 1), "1111");
        maze.begin(1);
        Check.same("decided behind begin", Mazes.rows(maze, 2, 1), "00");
    }

    private static void atOfAlikeRows() {
        GateMaze maze = Mazes.of(3, "20110201", "22222222", "12222212");
        maze.forget(0);
        maze.forget(2);
        // The rows 0, 1, 4, 5 are alike, and 2, 3, 6, 7.
        Check.same("decided by four rows", Mazes.rows(maze, 0, 1), "00330033");
        Check.same("free by four rows", Mazes.rows(maze, 1, 1), "22222222");
        Check.same("ones among free rows", Mazes.rows(maze, 2, 1), "11111111");
        GateMaze large = Mazes.of(6);
        large.set(1, 0, 2);
        large.set(1, 63, 1);
        for (int input = 0; input < 6; input++) {
            large.forget(input);
        }
        Check.same("decided by all rows", Mazes.rows(large, 1, 1), "3".repeat(64));
        large.remember(5);
        Check.same("decided by half of them", Mazes.rows(large, 1, 1), "0".repeat(32) + "3".repeat(32));
    }

    private static void atRefuses() {
        GateMaze maze = Mazes.of(3, "01201201");
        Check.refused("at(-1, 0, 0)", maze, OUTSIDE, () -> maze.at(-1, 0, 0));
        Check.refused("at(4, 0, 0)", maze, OUTSIDE, () -> maze.at(4, 0, 0));
        Check.refused("at(0, -1, 0)", maze, OUTSIDE, () -> maze.at(0, -1, 0));
        Check.refused("at(0, 8, 0)", maze, OUTSIDE, () -> maze.at(0, 8, 0));
        Check.refused("at(0, 8, 3)", maze, OUTSIDE, () -> maze.at(0, 8, 3));
        Check.refused("at(4, 0, -1)", maze, OUTSIDE, () -> maze.at(4, 0, -1));
        Check.refused("at(0, 7, 3)", maze, UNSOUND, () -> maze.at(0, 7, 3));
        Check.refused("at(3, 0, -1)", maze, UNSOUND, () -> maze.at(3, 0, -1));
    }

    private static void output() {
        GateMaze maze = Mazes.of(2, "0112");
        Check.same("numbers", Mazes.numbers(maze, 0), "2 1 2 1 0 2 2 2 0 0 3");
        Check.same("numbers of zeros", Mazes.numbers(maze, 3), "0 0 0 0 0 0 0 0 0 0 0");
        maze.forget(0);
        Check.same("numbers with the input 0 forgotten", Mazes.numbers(maze, 0), "2 1 2 0 2 1 1 0 0 0 0");
        maze.remember(0);
        maze.forget(1);
        // The rows 1 and 3 are decided 1, the rows 0 and 2 undecided, none is decided 0.
        Check.same("numbers with the input 1 forgotten", Mazes.numbers(maze, 0), "2 1 2 0 2 1 1 0 0 0 0");
        maze.ask(0);
        maze.ask(0);
        maze.ask(2);
        maze.ask(3);
        Check.same("alarms", maze.output(0, 8), 3);
        Check.same("faults: the row 0 is answered 1", maze.output(0, 9), 2);
        Check.same("alarms of another output", maze.output(1, 8), 0);
    }

    private static void outputOfEdges() {
        Check.same("all free", Mazes.numbers(Mazes.of(2, "2222"), 0), "0 4 0 4 0 1 0 0 0 0 0");
        Check.same("all one", Mazes.numbers(Mazes.of(2, "1111"), 0), "4 0 4 0 0 1 1 0 0 0 0");
        Check.same("one input", Mazes.numbers(Mazes.of(1, "01"), 0), "1 0 1 0 0 1 1 1 0 0 1");
        GateMaze maze = Mazes.of(1, "01");
        maze.forget(0);
        Check.same("all undecided: the empty product is a prime", Mazes.numbers(maze, 0), "1 0 0 0 2 1 0 0 0 0 0");
        // All but the first and the last of eight rows: six primes, of which the cover takes four.
        Check.same("a ring of primes", Mazes.numbers(Mazes.of(3, "01111110"), 0), "6 0 6 0 0 6 4 8 0 0 7");
        GateMaze last = Mazes.of(6);
        last.set(3, 63, 1);
        Check.same("one of 64 rows", Mazes.numbers(last, 3), "1 0 1 0 0 1 1 6 0 0 63");
        last.forget(3);
        Check.same("it is undecided", Mazes.numbers(last, 3), "1 0 0 0 2 1 0 0 0 0 0");
        last.set(3, 55, 1);
        Check.same("it is decided", Mazes.numbers(last, 3), "2 0 2 0 0 1 1 5 0 0 55");
    }

    private static void outputRefuses() {
        GateMaze maze = Mazes.of(3, "01201201");
        Check.refused("output(-1, 0)", maze, OUTSIDE, () -> maze.output(-1, 0));
        Check.refused("output(4, 0)", maze, OUTSIDE, () -> maze.output(4, 0));
        Check.refused("output(4, 11)", maze, OUTSIDE, () -> maze.output(4, 11));
        Check.refused("output(3, 11)", maze, UNSOUND, () -> maze.output(3, 11));
        Check.refused("output(0, -1)", maze, UNSOUND, () -> maze.output(0, -1));
    }

    private static void coverOrder() {
        Check.same("the lowest code", Mazes.cover(Mazes.of(2, "0112"), 0), "1/1 2/2");
        Check.same("of the same cares the lowest values", Mazes.cover(Mazes.of(2, "0110"), 0), "3/1 3/2");
        Check.same("most rows ahead of fewest cares", Mazes.cover(Mazes.of(4, "1100000000002221"), 0), "14/0 12/12");
        Check.same("fewest cares ahead of the lowest code", Mazes.cover(Mazes.of(4, "1000000010002211"), 0), "12/12 7/0");
        Check.same("fewest cares, with one row each", Mazes.cover(Mazes.of(4, "1000000020002221"), 0), "12/12 7/0");
        Check.same("the row 0 alone", Mazes.cover(Mazes.of(2, "1000"), 0), "3/0");
        Check.same("the primes of another output have no say", Mazes.cover(Mazes.of(3, "01101111", "00001001"), 1), "7/4 7/7");
        Check.same("nothing decided 1", Mazes.cover(Mazes.of(2, "0202"), 0), "");
        GateMaze maze = Mazes.of(3, "01000000");
        Check.same("one row", Mazes.cover(maze, 0), "7/1");
        maze.set(0, 3, 2);
        Check.same("a free row joins in", Mazes.cover(maze, 0), "5/1");
        maze.set(0, 3, 1);
        maze.forget(1);
        Check.same("only remembered inputs are cared for", Mazes.cover(maze, 0), "5/1");
        maze.set(0, 2, 1);
        Check.same("an undecided row may be in it", Mazes.cover(maze, 0), "4/0");
        Check.same("its answers", Mazes.rows(maze, 0, 2), "11110000");
    }

    private static void coverTakesTurns() {
        GateMaze maze = Mazes.of(3, "01111110");
        Check.same("each turn by the rows that are left", Mazes.cover(maze, 0), "3/1 3/2 5/1 5/4");
        Check.same("answers", Mazes.rows(maze, 0, 2), "01111110");
    }

    private static void product() {
        GateMaze maze = Mazes.of(3, "01111110", "01000100", "11111111", "11111111");
        Check.same("cares", maze.product(0, 3, 0), 5);
        Check.same("values", maze.product(0, 3, 1), 4);
        Check.same("rows", maze.product(0, 3, 2), 2);
        Check.same("covers", maze.product(0, 3, 3), 1);
        Check.same("covers of a shared one", maze.product(0, 0, 3), 2);
        Check.same("covers of a shared one, from the other output", maze.product(1, 0, 3), 2);
        Check.same("rows of the empty product", maze.product(3, 0, 2), 8);
        Check.same("covers of the empty product", maze.product(2, 0, 3), 2);
        for (int what = 0; what <= 3; what++) {
            Check.same("the cover has not so many", maze.product(0, 4, what), -1);
            Check.same("the cover has not so many", maze.product(1, 1, what), -1);
            Check.same("the cover has not so many", maze.product(0, 63, what), -1);
        }
        maze.join(0, 2);
        Check.same("three covers", maze.product(2, 0, 3), 3);
        maze.join(1, 2);
        Check.same("four covers", maze.product(0, 0, 3), 4);
        GateMaze forgotten = Mazes.of(3, "00110011");
        forgotten.forget(0);
        Check.same("rows differ in forgotten inputs too", forgotten.product(0, 0, 2), 4);
    }

    private static void productOfSixInputs() {
        GateMaze maze = Mazes.of(6);
        for (int row = 0; row < 64; row++) {
            maze.set(2, row, Integer.bitCount(row) % 2);
        }
        int place = 0;
        for (int row = 0; row < 64; row++) {
            if (Integer.bitCount(row) % 2 == 1) {
                Check.same("cares of the odd row " + row, maze.product(2, place, 0), 63);
                Check.same("values of the odd row " + row, maze.product(2, place, 1), row);
                place++;
            }
        }
        Check.same("32 products", maze.product(2, 32, 0), -1);
        Check.same("rows of the last one", maze.product(2, 31, 2), 1);
        Check.same("numbers", Mazes.numbers(maze, 2), "32 0 32 0 0 32 32 192 0 0 63");
    }

    private static void productRefuses() {
        GateMaze maze = Mazes.of(3, "01201201");
        Check.refused("product(-1, 0, 0)", maze, OUTSIDE, () -> maze.product(-1, 0, 0));
        Check.refused("product(4, 0, 0)", maze, OUTSIDE, () -> maze.product(4, 0, 0));
        Check.refused("product(4, 64, 4)", maze, OUTSIDE, () -> maze.product(4, 64, 4));
        Check.refused("product(0, -1, 0)", maze, UNSOUND, () -> maze.product(0, -1, 0));
        Check.refused("product(0, 64, 0)", maze, UNSOUND, () -> maze.product(0, 64, 0));
        Check.refused("product(0, 0, 4)", maze, UNSOUND, () -> maze.product(0, 0, 4));
        Check.refused("product(0, 0, -1)", maze, UNSOUND, () -> maze.product(0, 0, -1));
        Check.refused("product(0, 63, 4)", maze, UNSOUND, () -> maze.product(0, 63, 4));
    }

    private static void count() {
        GateMaze maze = Mazes.of(3, "01111110", "01000100", "11111111", "11111111");
        Check.same("counts", Mazes.counts(maze), "3 7 0 5 2 8 0 0 0 0 6");
        maze.forget(1);
        // Decided by pairs of rows: output 0 is 3111 1113 for the rows 0 to 7, output 1 is 0303 0303.
        Check.same("decided of 0", Mazes.rows(maze, 0, 1), "31311313");
        Check.same("decided of 1", Mazes.rows(maze, 1, 1), "03030303");
        Check.same("counts with the input 1 forgotten", Mazes.counts(maze), "3 5 8 1 1 0 0 0 0 0 6");
        maze.ask(7);
        maze.ask(0);
        maze.ask(1);
        // By output 0 the answers are 1, by output 1 they are 0: faults at 7 (0), 0 (0), 1 (1).
        Check.same("counts of asks", Mazes.counts(maze), "3 5 8 1 1 0 3 4 3 0 6");
        maze.pass(6);
        Check.same("counts behind hours", Mazes.counts(maze), "3 0 16 1 1 0 3 4 3 2 6");
        maze.undo();
        Check.same("counts behind undo", Mazes.counts(maze), "3 5 8 1 1 0 3 4 3 0 5");
        GateMaze shared = Mazes.of(2, "0111", "0101", "0101", "0101");
        Check.same("a part is counted once, and shared once", Mazes.counts(shared), "2 3 0 2 1 2 0 0 0 0 6");
        Check.same("parts of the same cares", Mazes.counts(Mazes.of(2, "0100", "0010", "0001")), "2 3 0 3 0 6 0 0 0 0 4");
    }

    private static void countRefuses() {
        GateMaze maze = Mazes.of(3, "01201201");
        for (int what : new int[] {-1, 11, Integer.MIN_VALUE, Integer.MAX_VALUE}) {
            Check.refused("count(" + what + ")", maze, UNSOUND, () -> maze.count(what));
        }
    }
}
