/** Promises 19 to 25: ifForgotten, needs, harmless, alike, nearest, decidedShare, digest. */
public final class WouldBeTest {
    private static final Class<IndexOutOfBoundsException> OUTSIDE = IndexOutOfBoundsException.class;
    private static final Class<IllegalArgumentException> UNSOUND = IllegalArgumentException.class;

    public static void main(String[] args) {
        ifForgotten();
        ifForgottenRefuses();
        needs();
        harmless();
        alike();
        nearest();
        nearestRefuses();
        decidedShare();
        digest();
        digestOfShares();
        nothingChanges();
        Check.end("WouldBeTest");
    }

    private static void ifForgotten() {
        GateMaze maze = Mazes.of(2, "0110", "0011", "0001");
        Check.same("undecided without 0", maze.ifForgotten(0, 0), 6);
        Check.same("parts without 0", maze.ifForgotten(0, 1), 1);
        Check.same("undecided without 1", maze.ifForgotten(1, 0), 10);
        Check.same("parts without 1", maze.ifForgotten(1, 1), 0);
        Check.same("parts as it is", maze.count(3), 4);
        Check.same("the cover as it is", Mazes.cover(maze, 0), "3/1 3/2");
        maze.forget(1);
        Check.same("NONE if it is forgotten", maze.ifForgotten(1, 0), -1);
        Check.same("NONE if it is forgotten", maze.ifForgotten(1, 1), -1);
        Check.same("undecided without both", maze.ifForgotten(0, 0), 12);
        GateMaze shared = Mazes.of(3, "00110011", "00110011", "11111111");
        Check.same("a shared part is one part", shared.ifForgotten(2, 1), 2);
        GateMaze large = Mazes.of(6);
        large.set(0, 0, 1);
        Check.same("of six inputs", large.ifForgotten(5, 0), 2);
        Check.same("of six inputs", large.ifForgotten(5, 1), 0);
    }

    private static void ifForgottenRefuses() {
        GateMaze maze = Mazes.of(3, "01201201");
        maze.forget(1);
        Check.refused("ifForgotten(-1, 0)", maze, OUTSIDE, () -> maze.ifForgotten(-1, 0));
        Check.refused("ifForgotten(3, 0) of three inputs", maze, OUTSIDE, () -> maze.ifForgotten(3, 0));
        Check.refused("ifForgotten(3, 2)", maze, OUTSIDE, () -> maze.ifForgotten(3, 2));
        Check.refused("ifForgotten(0, 2)", maze, UNSOUND, () -> maze.ifForgotten(0, 2));
        Check.refused("ifForgotten(0, -1)", maze, UNSOUND, () -> maze.ifForgotten(0, -1));
        Check.refused("ifForgotten(1, 2) of a forgotten one", maze, UNSOUND, () -> maze.ifForgotten(1, 2));
    }

    private static void needs() {
        GateMaze maze = Mazes.of(2, "0120", "0212", "0201", "0221");
        Check.same("both", maze.needs(0), 3);
        Check.same("the input 1", maze.needs(1), 2);
        Check.same("the input 0", maze.needs(2), 1);
        Check.same("none: the rows differ in two inputs", maze.needs(3), 0);
        maze.forget(0);
        maze.forget(1);
        Check.same("whatever is forgotten", maze.needs(0), 3);
        GateMaze large = Mazes.of(6);
        Check.same("zeros", large.needs(3), 0);
        Mazes.fill(large, "-1---1=3:1");
        Check.same("of six inputs", large.needs(3), 34);
        Check.same("of another output", large.needs(2), 0);
        Check.refused("needs(-1)", maze, OUTSIDE, () -> maze.needs(-1));
        Check.refused("needs(4)", maze, OUTSIDE, () -> maze.needs(4));
    }

    private static void harmless() {
        Check.same("the input 1 alone is needed", Mazes.of(3, "00110011").harmless(), 5);
        Check.same("the input 0 alone is needed", Mazes.of(3, "01010101").harmless(), 6);
        Check.same("of several the lowest", Mazes.of(2, "0221").harmless(), 1);
        Check.same("by all outputs", Mazes.of(2, "0221", "0101").harmless(), 2);
        Check.same("by the last output", Mazes.of(2, "0221", "0000", "0000", "0101").harmless(), 2);
        Check.same("none", Mazes.of(2, "0110").harmless(), 0);
        Check.same("all", Mazes.of(2, "2222", "1121", "0200").harmless(), 3);
        Check.same("all of six", Mazes.of(6).harmless(), 63);
        Check.same("all of one", Mazes.of(1, "21").harmless(), 1);
        GateMaze maze = Mazes.of(2, "0101");
        maze.forget(0);
        Check.same("whatever is forgotten", maze.harmless(), 2);
        maze.forget(1);
        Check.same("whatever is forgotten", maze.harmless(), 2);
    }

    private static void alike() {
        GateMaze maze = Mazes.of(2, "0110", "1001", "0111", "2220");
        Check.same("with itself", maze.alike(0, 0), 4);
        Check.same("turned around", maze.alike(0, 1), 0);
        Check.same("in three rows", maze.alike(0, 2), 3);
        Check.same("the other way", maze.alike(2, 0), 3);
        Check.same("answers, not truths", maze.alike(3, 0), 2);
        maze.forget(0);
        Check.same("answers of what is remembered", maze.alike(0, 1), 4);
        Check.same("in six inputs", Mazes.of(6).alike(2, 3), 64);
        Check.refused("alike(-1, 0)", maze, OUTSIDE, () -> maze.alike(-1, 0));
        Check.refused("alike(4, 0)", maze, OUTSIDE, () -> maze.alike(4, 0));
        Check.refused("alike(0, -1)", maze, OUTSIDE, () -> maze.alike(0, -1));
        Check.refused("alike(0, 4)", maze, OUTSIDE, () -> maze.alike(0, 4));
    }

    private static void nearest() {
        GateMaze maze = Mazes.of(3, "00000010", "11111111");
        Check.same("NONE", maze.nearest(0, 6), -1);
        maze.forget(0);
        // The rows 6 and 7 of output 0 are undecided.
        Check.same("the row itself", maze.nearest(0, 6), 6);
        Check.same("the row itself", maze.nearest(0, 7), 7);
        Check.same("one forgotten input apart counts too", maze.nearest(0, 5), 7);
        Check.same("from 0", maze.nearest(0, 0), 6);
        Check.same("from 1", maze.nearest(0, 1), 7);
        Check.same("NONE of another output", maze.nearest(1, 6), -1);
        GateMaze ties = Mazes.of(3, "00100100");
        ties.forget(2);
        // The rows 1, 2, 5, 6 are undecided.
        Check.same("of several the lowest", ties.nearest(0, 0), 1);
        Check.same("of several the lowest", ties.nearest(0, 3), 1);
        Check.same("of several the lowest", ties.nearest(0, 7), 5);
        Check.same("nearer ahead of lower", ties.nearest(0, 6), 6);
        GateMaze first = Mazes.of(3, "10000000");
        first.forget(0);
        Check.same("the row 0 itself", first.nearest(0, 0), 0);
        Check.same("the row 0 from 2", first.nearest(0, 2), 0);
        GateMaze large = Mazes.of(6);
        large.set(3, 63, 1);
        large.forget(5);
        Check.same("the last row", large.nearest(3, 63), 63);
        Check.same("from 0", large.nearest(3, 0), 31);
        Check.same("from 32", large.nearest(3, 32), 63);
    }

    private static void nearestRefuses() {
        GateMaze maze = Mazes.of(3, "01201201");
        Check.refused("nearest(-1, 0)", maze, OUTSIDE, () -> maze.nearest(-1, 0));
        Check.refused("nearest(4, 0)", maze, OUTSIDE, () -> maze.nearest(4, 0));
        Check.refused("nearest(0, -1)", maze, OUTSIDE, () -> maze.nearest(0, -1));
        Check.refused("nearest(0, 8) of three inputs", maze, OUTSIDE, () -> maze.nearest(0, 8));
    }

    private static void decidedShare() {
        Check.same("all is decided", new GateMaze().decidedShare(), 1.0);
        GateMaze maze = Mazes.of(1, "02", "22", "22", "22");
        Check.same("one pair", maze.decidedShare(), 1.0);
        maze.set(0, 0, 2);
        Check.same("no pairs", maze.decidedShare(), 1.0);
        maze.forget(0);
        Check.same("no pairs, forgotten", maze.decidedShare(), 1.0);
        maze.set(0, 0, 0);
        maze.set(0, 1, 1);
        Check.same("none is decided", maze.decidedShare(), 0.0);
        maze.set(1, 0, 1);
        Check.same("one of three", maze.decidedShare(), 1.0 / 3.0);
        GateMaze open = Mazes.of(2, "0120", "2222", "1121");
        open.forget(0);
        // Output 0: the pairs of the rows 0 and 1 are undecided, and 3 is decided; 2 does not count.
        Check.same("open truths do not count", open.decidedShare(), 8.0 / 10.0);
    }

    private static void digest() {
        GateMaze maze = new GateMaze();
        Check.same("digest of a new object", maze.digest(), Mazes.digest(maze, ""));
        Check.same("digest of a new object, as the model says it", maze.digest(), new Model().digest());
        Mazes.type(maze, "10~");
        Check.same("digest with a buffer", maze.digest(), Mazes.digest(maze, "10~"));
        maze.clearBuffer();
        Check.same("digest with the buffer cleared", maze.digest(), Mazes.digest(maze, ""));
        String[] texts = {"1-=0:1,01=1:2,-1=2:1,0-=3:2,11=3:1", "00=1:1,10=2:2,-0=0:1"};
        GateMaze two = Mazes.of(2);
        for (String text : texts) {
            Mazes.fill(two, text);
            Check.same("digest of two inputs", two.digest(), Mazes.digest(two, ""));
            two.forget(0);
            two.ask(1);
            two.ask(2);
            Check.same("digest with an input forgotten", two.digest(), Mazes.digest(two, ""));
            two.pass(6);
            two.ask(3);
            Check.same("digest with all forgotten", two.digest(), Mazes.digest(two, ""));
            two.remember(1);
            Check.same("digest with one remembered", two.digest(), Mazes.digest(two, ""));
            two.remember(0);
        }
        GateMaze six = Mazes.of(6);
        Mazes.fill(six, "1--0--=0:1,-11---=0:1,---01-=1:2,0----1=2:1,--1-1-=3:1");
        Check.same("digest of six inputs", six.digest(), Mazes.digest(six, ""));
        GateMaze one = Mazes.of(1, "01", "10", "21");
        Check.same("digest of one input", one.digest(), Mazes.digest(one, ""));
    }

    /** The bits of the shares, with 1 to 256 as divisors, are those that Double.doubleToLongBits tells. */
    private static void digestOfShares() {
        GateMaze maze = Mazes.of(6);
        for (int output = 0; output < 4; output++) {
            Mazes.fill(maze, "------=" + output + ":2");
        }
        maze.set(0, 0, 0);
        maze.set(0, 1, 1);
        maze.forget(0);
        Check.same("the share 0", maze.decidedShare(), 0.0);
        Check.same("digest of the share 0", maze.digest(), Mazes.digest(maze, ""));
        int told = 2;
        for (int output = 1; output < 4; output++) {
            for (int row = 0; row < 64 && told < 150; row++) {
                maze.set(output, row, 0);
                told++;
                if (told % 7 == 0 || told < 12) {
                    Check.same("the share", maze.decidedShare(), (double) (told - 2) / told);
                    GateMaze same = maze;
                    Check.same("digest of the share", same.digest(), Mazes.digest(same, ""));
                }
            }
        }
        for (int seldom = 1; seldom < 9; seldom++) {
            GateMaze low = Mazes.of(6);
            for (int output = 0; output < 4; output++) {
                Mazes.fill(low, seldom % 2 == 0 ? "1-----=" + output + ":1" : "-----1=" + output + ":1");
            }
            low.forget(seldom % 2 == 0 ? 0 : 5);
            for (int row = 0; row < seldom; row++) {
                low.set(0, row, 0);
                low.set(0, row ^ (seldom % 2 == 0 ? 1 : 32), 2);
            }
            Check.holds("a low share", low.decidedShare() > 0.0 && low.decidedShare() < 0.1);
            Check.same("digest of a low share", low.digest(), Mazes.digest(low, ""));
        }
    }

    private static void nothingChanges() {
        GateMaze maze = Mazes.of(3, "01101001", "00120111", "22011201");
        maze.forget(1);
        maze.ask(3);
        long before = maze.digest();
        maze.ifForgotten(0, 0);
        maze.ifForgotten(2, 1);
        maze.needs(0);
        maze.harmless();
        maze.alike(0, 2);
        maze.nearest(0, 5);
        maze.decidedShare();
        maze.firstError();
        Check.same("the digest behind questions", maze.digest(), before);
        Check.same("the saved states", maze.count(10), 6);
    }
}
