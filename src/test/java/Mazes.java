import java.math.BigInteger;
import java.util.function.Supplier;

/** Short ways to make mazes and to look at them by their public face. */
final class Mazes {
    private Mazes() {
    }

    static GateMaze of(int inputs) {
        GateMaze maze = new GateMaze();
        maze.begin(inputs);
        return maze;
    }

    /** A maze with these truths, told as a text: for each output the truths of the rows 0, 1, and so on. */
    static GateMaze of(int inputs, String... truths) {
        GateMaze maze = of(inputs);
        for (int output = 0; output < truths.length; output++) {
            give(maze, output, truths[output]);
        }
        return maze;
    }

    static void give(GateMaze maze, int output, String truths) {
        for (int row = 0; row < truths.length(); row++) {
            if (truths.charAt(row) - '0' != maze.at(output, row, 0)) {
                maze.set(output, row, truths.charAt(row) - '0');
            }
        }
    }

    static void type(GateMaze maze, String text) {
        for (int i = 0; i < text.length(); i++) {
            maze.append(text.charAt(i));
        }
    }

    static int fill(GateMaze maze, String text) {
        maze.clearBuffer();
        type(maze, text);
        return maze.fill();
    }

    /** The truths (0), what is decided (1) or the answers (2) of an output, row by row. */
    static String rows(GateMaze maze, int output, int what) {
        StringBuilder rows = new StringBuilder();
        int many = 1 << maze.count(0);
        for (int row = 0; row < many; row++) {
            rows.append(maze.at(output, row, what));
        }
        return rows.toString();
    }

    /** The cover of an output as cares/values, in its order. */
    static String cover(GateMaze maze, int output) {
        StringBuilder cover = new StringBuilder();
        for (int place = 0; maze.product(output, place, 0) != GateMaze.NONE; place++) {
            cover.append(place == 0 ? "" : " ").append(maze.product(output, place, 0));
            cover.append('/').append(maze.product(output, place, 1));
        }
        return cover.toString();
    }

    static String counts(GateMaze maze) {
        StringBuilder counts = new StringBuilder();
        for (int what = 0; what <= 10; what++) {
            counts.append(what == 0 ? "" : " ").append(maze.count(what));
        }
        return counts.toString();
    }

    static String numbers(GateMaze maze, int output) {
        StringBuilder numbers = new StringBuilder();
        for (int what = 0; what <= 10; what++) {
            numbers.append(what == 0 ? "" : " ").append(maze.output(output, what));
        }
        return numbers.toString();
    }

    /**
     * The digest as the document lists it, from what the other calls answer. For each output an object is made anew, so
     * that none is called more than 512 times.
     */
    static long digest(Supplier<GateMaze> made, String buffer) {
        Hash hash = new Hash();
        GateMaze first = made.get();
        for (int what = 0; what <= 10; what++) {
            hash.add(first.count(what));
        }
        for (int output = 0; output < 4; output++) {
            addOutput(hash, made.get(), output);
        }
        int inputs = first.count(0);
        for (int input = 0; input < inputs; input++) {
            hash.add(first.ifForgotten(input, 0));
            hash.add(first.ifForgotten(input, 1));
        }
        hash.add(first.harmless());
        hash.add(Double.doubleToLongBits(first.decidedShare()));
        hash.add(buffer.length());
        for (char c : buffer.toCharArray()) {
            hash.add(c);
        }
        return hash.sum.longValue();
    }

    private static void addOutput(Hash hash, GateMaze maze, int output) {
        int rows = 1 << maze.count(0);
        for (int row = 0; row < rows; row++) {
            for (int what = 0; what <= 2; what++) {
                hash.add(maze.at(output, row, what));
            }
        }
        for (int what = 0; what <= 10; what++) {
            hash.add(maze.output(output, what));
        }
        int products = maze.output(output, 6);
        for (int place = 0; place < products; place++) {
            for (int what = 0; what <= 3; what++) {
                hash.add(maze.product(output, place, what));
            }
        }
        hash.add(maze.needs(output));
        hash.add(maze.alike(output, 0));
        hash.add(maze.nearest(output, 0));
    }

    /** The digest without overflow: its lowest 64 bits are what is due. */
    private static final class Hash {
        private BigInteger sum = BigInteger.valueOf(2423);

        void add(long value) {
            sum = sum.multiply(BigInteger.valueOf(31)).add(BigInteger.valueOf(value));
        }
    }
}
