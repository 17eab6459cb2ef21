import java.util.function.Supplier;

/** Promises 19 to 25: ifForgotten, needs, harmless, alike, nearest, decidedShare, digest. */
public final class WouldBeTest {
    private static final Class<IndexOutOfBoundsException> OUTSIDE = IndexOutOfBoundsException.class;
    private static final Class<IllegalArgumentException> UNSOUND = IllegalArgumentException.class;

    public static void main(String[] args) {
        ifForgotten();
        ifForgottenRefuses();
        needs();
        harmless();
        alike();
        nearest();
        nearestRefuses();
        decidedShare();
        digest();
        digestOfShares();
        nothingChanges();
        Check.end("WouldBeTest");
    }

    private static void ifForgotten() {
        GateMaze maze = Mazes.of(2, "0110", "0011", "0001");
        Check.same("undecided without 0", maze.ifForgotten(0, 0), 6);
        Check.same("parts without 0", maze.ifForgotten(0, 1), 1);
        Check.same("undecided without 1", maze.ifForgotten(1, 0), 10);
        Check.same("parts without 1", maze.ifForgotten(1, 1), 0);
        Check.same("parts as it is", maze.count(3), 4);
        Check.same("the cover as it is", Mazes.cover(maze, 0), "3/1 3/2");
        maze.forget(1);
        Check.same("NONE if it is forgotten", maze.ifForgotten(1, 0), -1);
        Check.same("NONE if it is forgotten", maze.ifForgotten(1, 1), -1);
        Check.same("undecided without both", maze.ifForgotten(0, 0), 12);
        GateMaze shared = Mazes.of(3, "00110011", "00110011", "11111111");
        Check.same("a shared part is one part", shared.ifForgotten(2, 1), 2);
        GateMaze large = Mazes.of(6);
        large.set(0, 0, 1);
        Check.same("of six inputs", large.ifForgotten(5, 0), 2);
        Check.same("of six inputs", large.ifForgotten(5, 1), 0);
    }

    private static void ifForgottenRefuses() {
        GateMaze maze = Mazes.of(3, "01201201");
        maze.forget(1);
        Check.refused("ifForgotten(-1, 0)", maze, OUTSIDE, () -> maze.ifForgotten(-1, 0));
        Check.refused("ifForgotten(3, 0) of three inputs", maze, OUTSIDE, () -> maze.ifForgotten(3, 0));
        Check.refused("ifForgotten(3, 2)", maze, OUTSIDE, () -> maze.ifForgotten(3, 2));
        Check.refused("ifForgotten(0, 2)", maze, UNSOUND, () -> maze.ifForgotten(0, 2));
        Check.refused("ifForgotten(0, -1)", maze, UNSOUND, () -> maze.ifForgotten(0, -1));
        Check.refused("ifForgotten(1, 2) of a forgotten one", maze, UNSOUND, () -> maze.ifForgotten(1, 2));
    }

    private static void needs() {
        GateMaze maze = Mazes.of(2, "0120", "0212", "0201", "0221");
        Check.same("both", maze.needs(0), 3);
        Check.same("the input 1", maze.needs(1), 2);
        Check.same("the input 0", maze.needs(2), 1);
        Check.same("none: the rows differ in two inputs", maze.needs(3), 0);
        maze.forget(0);
        maze.forget(1);
        Check.same("whatever is forgotten", maze.needs(0), 3);
        GateMaze large = Mazes.of(6);
        Check.same("zeros", large.needs(3), 0);
        Mazes.fill(large, "-1---1=3:1");
        Check.same("of six inputs", large.needs(3), 34);
        Check.same("of another output", large.needs(2), 0);
        Check.refused("needs(-1)", maze, OUTSIDE, () -> maze.needs(-1));
        Check.refused("needs(4)", maze, OUTSIDE, () -> maze.needs(4));
    }

    private static void harmless() {
        Check.same("the input 1 alone is needed", Mazes.of(3, "00110011").harmless(), 5);
        Check.same("the input 0 alone is needed", Mazes.of(3, "01010101").harmless(), 6);
        Check.same("of several the lowest", Mazes.of(2, "0221").harmless(), 1);
        Check.same("by all outputs", Mazes.of(2, "0221", "0101").harmless(), 2);
        Check.same("by the last output", Mazes.of(2, "0221", "0000", "0000", "0101").harmless(), 2);
        Check.same("none", Mazes.of(2, "0110").harmless(), 0);
        Check.same("all", Mazes.of(2, "2222", "1121", "0200").harmless(), 3);
        Check.same("all of six", Mazes.of(6).harmless(), 63);
        Check.same("all of one", Mazes.of(1, "21").harmless(), 1);
        GateMaze maze = Mazes.of(2, "0101");
        maze.forget(0);
        Check.same("whatever is forgotten", maze.harmless(), 2);
        maze.forget(1);
        Check.same("whatever is forgotten", maze.harmless(), 2);
    }

    private static void alike() {
        GateMaze maze = Mazes.of(2, "0110", "1001", "0111", "2220");
        Check.same("with itself", maze.alike(0, 0), 4);
        Check.same("turned around", maze.alike(0, 1), 0);
        Check.same("in three rows", maze.alike(0, 2), 3);
        Check.same("the other way", maze.alike(2, 0), 3);
        Check.same("answers, not truths", maze.alike(3, 0), 2);
        maze.forget(0);
        Check.same("answers of what is remembered", maze.alike(0, 1), 4);
        Check.same("in six inputs", Mazes.of(6).alike(2, 3), 64);
        Check.refused("alike(-1, 0)", maze, OUTSIDE, () -> maze.alike(-1, 0));
        Check.refused("alike(4, 0)", maze, OUTSIDE, () -> maze.alike(4, 0));
        Check.refused("alike(0, -1)", maze, OUTSIDE, () -> maze.alike(0, -1));
        Check.refused("alike(0, 4)", maze, OUTSIDE, () -> maze.alike(0, 4));
    }

    private static void nearest() {
        GateMaze maze = Mazes.of(3, "00000010", "11111111");
        Check.same("NONE", maze.nearest(0, 6), -1);
        maze.forget(0);
        // The rows 6 and 7 of output 0 are undecided.
        Check.same("the row itself", maze.nearest(0, 6), 6);
        Check.same("the row itself", maze.nearest(0, 7), 7);
        Check.same("one forgotten input apart counts too", maze.nearest(0, 5), 7);
        Check.same("from 0", maze.nearest(0, 0), 6);
        Check.same("from 1", maze.nearest(0, 1), 7);
        Check.same("NONE of another output", maze.nearest(1, 6), -1);
        GateMaze ties = Mazes.of(3, "00100100");
        ties.forget(2);
        // The rows 1, 2, 5, 6 are undecided.
        Check.same("of several the lowest", ties.nearest(0, 0), 1);
        Check.same("of several the lowest", ties.nearest(0, 3), 1);
        Check.same("of several the lowest", ties.nearest(0, 7), 5);
        Check.same("nearer ahead of lower", ties.nearest(0, 6), 6);
        GateMaze first = Mazes.of(3, "10000000");
        first.forget(0);
        Check.same("the row 0 itself", first.nearest(0, 0), 0);
        Check.same("the row 0 from 2", first.nearest(0, 2), 0);
        GateMaze large = Mazes.of(6);
        large.set(3, 63, 1);
        large.forget(5);
        Check.same("the last row", large.nearest(3, 63), 63);
        Check.same("from 0", large.nearest(3, 0), 31);
        Check.same("from 32", large.nearest(3, 32), 63);
    }

    private static void nearestRefuses() {
        GateMaze maze = Mazes.of(3, "01201201");
        Check.refused("nearest(-1, 0)", maze, OUTSIDE, () -> maze.nearest(-1, 0));
        Check.refused("nearest(4, 0)", maze, OUTSIDE, () -> maze.nearest(4, 0));
        Check.refused("nearest(0, -1)", maze, OUTSIDE, () -> maze.nearest(0, -1));
        Check.refused("nearest(0, 8) of three inputs", maze, OUTSIDE, () -> maze.nearest(0, 8));
    }

    private static void decidedShare() {
        Check.same("all is decided", new GateMaze().decidedShare(), 1.0);
        GateMaze maze = Mazes.of(1, "02", "22", "22", "22");
        Check.same("one pair", maze.decidedShare(), 1.0);
        maze.set(0, 0, 2);
        Check.same("no pairs", maze.decidedShare(), 1.0);
        maze.forget(0);
        Check.same("no pairs, forgotten", maze.decidedShare(), 1.0);
        maze.set(0, 0, 0);
        maze.set(0, 1, 1);
        Check.same("none is decided", maze.decidedShare(), 0.0);
        maze.set(1, 0, 1);
        Check.same("one of three", maze.decidedShare(), 1.0 / 3.0);
        GateMaze open = Mazes.of(2, "0120", "2222", "1121");
        open.forget(0);
        // Output 0: the pairs of the rows 0 and 1 are undecided, and 3 is decided; 2 does not count.
        Check.same("open truths do not count", open.decidedShare(), 8.0 / 10.0);
    }

    private static void digestIs(String what, Supplier<GateMaze> made, String buffer) {
        Check.same(what, made.get().digest(), Mazes.digest(made, buffer));
    }

    private static void digest() {
        digestIs("digest of a new object", GateMaze::new, "");
        Check.same("digest of a new object, as the model says it", new GateMaze().digest(), new Model().digest());
        digestIs("digest with a buffer", () -> typed("10~"), "10~");
        digestIs("digest with the buffer cleared", () -> {
            GateMaze maze = typed("10~");
            maze.clearBuffer();
            return maze;
        }, "");
        String[] texts = {"1-=0:1,01=1:2,-1=2:1,0-=3:2,11=3:1", "00=1:1,10=2:2,-0=0:1"};
        for (String text : texts) {
            digestIs("digest of two inputs", () -> two(text, 0), "");
            digestIs("digest with an input forgotten", () -> two(text, 1), "");
            digestIs("digest with all forgotten", () -> two(text, 2), "");
            digestIs("digest with one remembered", () -> two(text, 3), "");
        }
        digestIs("digest of six inputs", () -> {
            GateMaze six = Mazes.of(6);
            Mazes.fill(six, "1--0--=0:1,-11---=0:1,---01-=1:2,0----1=2:1,--1-1-=3:1");
            return six;
        }, "");
        digestIs("digest of one input", () -> Mazes.of(1, "01", "10", "21"), "");
    }

    private static GateMaze typed(String buffer) {
        GateMaze maze = new GateMaze();
        Mazes.type(maze, buffer);
        return maze;
    }

    private static GateMaze two(String text, int steps) {
        GateMaze two = Mazes.of(2);
        Mazes.fill(two, text);
        if (steps >= 1) {
            two.forget(0);
            two.ask(1);
            two.ask(2);
        }
        if (steps >= 2) {
            two.pass(6);
            two.ask(3);
        }
        if (steps >= 3) {
            two.remember(1);
        }
        return two;
    }

    /** The bits of the shares, with 2 to 150 as divisors, are those that Double.doubleToLongBits tells. */
    private static void digestOfShares() {
        for (int told = 2; told < 150; told += told < 12 ? 1 : 7) {
            int many = told;
            Check.same("the share", share(told).decidedShare(), (double) (told - 2) / told);
            digestIs("digest of the share of " + told, () -> share(many), "");
        }
        for (int seldom = 1; seldom < 9; seldom++) {
            int many = seldom;
            double low = lowShare(seldom).decidedShare();
            Check.holds("a low share", low > 0.0 && low < 0.1);
            digestIs("digest of a low share", () -> lowShare(many), "");
        }
    }

    /** So many truths are 0 or 1; two of them are undecided. */
    private static GateMaze share(int told) {
        GateMaze maze = Mazes.of(6);
        for (int output = 0; output < 4; output++) {
            Mazes.fill(maze, "------=" + output + ":2");
        }
        maze.set(0, 0, 0);
        maze.set(0, 1, 1);
        maze.forget(0);
        for (int i = 2; i < told; i++) {
            maze.set(1 + (i - 2) / 64, (i - 2) % 64, 0);
        }
        return maze;
    }

    /** So few pairs are decided. */
    private static GateMaze lowShare(int seldom) {
        GateMaze low = Mazes.of(6);
        int forgotten = seldom % 2 == 0 ? 0 : 5;
        for (int output = 0; output < 4; output++) {
            Mazes.fill(low, (forgotten == 0 ? "1-----=" : "-----1=") + output + ":1");
        }
        low.forget(forgotten);
        for (int row = 0; row < seldom; row++) {
            low.set(0, row, 0);
            low.set(0, row ^ 1 << forgotten, 2);
        }
        return low;
    }

    private static void nothingChanges() {
        GateMaze maze = Mazes.of(3, "01101001", "00120111", "22011201");
        maze.forget(1);
        maze.ask(3);
        long before = maze.digest();
        maze.ifForgotten(0, 0);
        maze.ifForgotten(2, 1);
        maze.needs(0);
        maze.harmless();
        maze.alike(0, 2);
        maze.nearest(0, 5);
        maze.decidedShare();
        maze.firstError();
        Check.same("the digest behind questions", maze.digest(), before);
        Check.same("the saved states", maze.count(10), 6);
    }
}
