/** Short ways to make mazes and to look at them by their public face. */
final class Mazes {
    private Mazes() {
    }

    static GateMaze of(int inputs) {
        GateMaze maze = new GateMaze();
        maze.begin(inputs);
        return maze;
    }

    /** A maze with these truths, told as a text: for each output the truths of the rows 0, 1, and so on. */
    static GateMaze of(int inputs, String... truths) {
        GateMaze maze = of(inputs);
        for (int output = 0; output < truths.length; output++) {
            give(maze, output, truths[output]);
        }
        return maze;
    }

    static void give(GateMaze maze, int output, String truths) {
        for (int row = 0; row < truths.length(); row++) {
            if (truths.charAt(row) - '0' != maze.at(output, row, 0)) {
                maze.set(output, row, truths.charAt(row) - '0');
            }
        }
    }

    static void type(GateMaze maze, String text) {
        for (int i = 0; i < text.length(); i++) {
            maze.append(text.charAt(i));
        }
    }

    static int fill(GateMaze maze, String text) {
        maze.clearBuffer();
        type(maze, text);
        return maze.fill();
    }

    /** The truths (0), what is decided (1) or the answers (2) of an output, row by row. */
    static String rows(GateMaze maze, int output, int what) {
        StringBuilder rows = new StringBuilder();
        for (int row = 0; row < 1 << maze.count(0); row++) {
            rows.append(maze.at(output, row, what));
        }
        return rows.toString();
    }

    /** The cover of an output as cares/values, in its order. */
    static String cover(GateMaze maze, int output) {
        StringBuilder cover = new StringBuilder();
        for (int place = 0; maze.product(output, place, 0) != GateMaze.NONE; place++) {
            cover.append(place == 0 ? "" : " ").append(maze.product(output, place, 0));
            cover.append('/').append(maze.product(output, place, 1));
        }
        return cover.toString();
    }

    static String counts(GateMaze maze) {
        StringBuilder counts = new StringBuilder();
        for (int what = 0; what <= 10; what++) {
            counts.append(what == 0 ? "" : " ").append(maze.count(what));
        }
        return counts.toString();
    }

    static String numbers(GateMaze maze, int output) {
        StringBuilder numbers = new StringBuilder();
        for (int what = 0; what <= 10; what++) {
            numbers.append(what == 0 ? "" : " ").append(maze.output(output, what));
        }
        return numbers.toString();
    }

    /** The digest as the document lists it, from what the other calls answer. */
    static long digest(GateMaze maze, String buffer) {
        long hash = 2423;
        for (int what = 0; what <= 10; what++) {
            hash = 31 * hash + maze.count(what);
        }
        for (int output = 0; output < 4; output++) {
            for (int row = 0; row < 1 << maze.count(0); row++) {
                for (int what = 0; what <= 2; what++) {
                    hash = 31 * hash + maze.at(output, row, what);
                }
            }
            for (int what = 0; what <= 10; what++) {
                hash = 31 * hash + maze.output(output, what);
            }
            for (int place = 0; place < maze.output(output, 6); place++) {
                for (int what = 0; what <= 3; what++) {
                    hash = 31 * hash + maze.product(output, place, what);
                }
            }
            hash = 31 * hash + maze.needs(output);
            hash = 31 * hash + maze.alike(output, 0);
            hash = 31 * hash + maze.nearest(output, 0);
        }
        for (int input = 0; input < maze.count(0); input++) {
            hash = 31 * hash + maze.ifForgotten(input, 0);
            hash = 31 * hash + maze.ifForgotten(input, 1);
        }
        hash = 31 * hash + maze.harmless();
        hash = 31 * hash + Double.doubleToLongBits(maze.decidedShare());
        hash = 31 * hash + buffer.length();
        for (char c : buffer.toCharArray()) {
            hash = 31 * hash + c;
        }
        return hash;
    }
}
