import java.util.function.Consumer;

/**
 * "A call that throws an exception changes nothing. If several exceptions apply, the one that is named first in the
 * throws clause is thrown." Every line of the document that begins with "Throws" has a test of its own, in several states:
 * behind the throw the maze must go on as its twin does that was not asked, its saved states and its buffer too.
 */
public final class RefusalsTest {
    private static final Class<IndexOutOfBoundsException> OUTSIDE = IndexOutOfBoundsException.class;
    private static final Class<IllegalArgumentException> UNSOUND = IllegalArgumentException.class;
    private static final Class<IllegalStateException> NOT_NOW = IllegalStateException.class;

    private static final int LEAST = Integer.MIN_VALUE;
    private static final int MOST = Integer.MAX_VALUE;
    private static final int STATES = 4;
    private static final int[] NO_OUTPUTS = {-1, 4, LEAST, MOST, 1 << 16, -4};

    public static void main(String[] args) {
        noSuchOutput();
        noSuchOtherOutput();
        noSuchRow();
        noSuchInput();
        beginOutOfRange();
        truthOutOfRange();
        joinOfTheSame();
        forgetOfForgotten();
        rememberOfRemembered();
        hoursOutOfRange();
        codeOutOfRange();
        appendToFullBuffer();
        fillOfNoTable();
        undoOfNothing();
        whatOutOfRange();
        placeOutOfRange();
        firstNamedForOutputs();
        firstNamedForRows();
        firstNamedForInputs();
        firstNamedForCodes();
        Check.end("RefusalsTest");
    }

    /** States: few saved; some saved, one input forgotten; six saved, all forgotten, counted, a buffer; a full buffer. */
    private static GateMaze made(int state, int inputs) {
        GateMaze maze = new GateMaze();
        maze.begin(inputs);
        if (state >= 1) {
            maze.set(1, 1, 1);
            maze.set(0, 0, 2);
            maze.forget(0);
            Mazes.type(maze, "0");
        }
        if (state >= 2) {
            maze.invert(2);
            maze.set(2, 1, 0);
            maze.ask(1);
            maze.pass(6);
            maze.ask(0);
            Mazes.type(maze, "1-=0:1");
        }
        if (state >= 3) {
            maze.clearBuffer();
            Mazes.type(maze, "~".repeat(60));
        }
        return maze;
    }

    private static void refusedInAll(String what, int inputs, Class<? extends RuntimeException> kind, Consumer<GateMaze> call) {
        for (int state = 0; state < STATES; state++) {
            refused(what + " of " + inputs + " inputs in the state " + state, made(state, inputs), made(state, inputs), kind, call);
        }
    }

    private static void refused(String what, GateMaze maze, GateMaze twin, Class<? extends RuntimeException> kind, Consumer<GateMaze> call) {
        String got = "nothing";
        try {
            call.accept(maze);
        } catch (RuntimeException e) {
            got = e.getClass().getName();
        }
        Check.same(what + " throws", got, kind.getName());
        Check.same(what + ": the digest behind it", maze.digest(), twin.digest());
        while (twin.count(10) > 0) {
            Check.same(what + ": saved states behind it", maze.count(10), twin.count(10));
            if (maze.count(10) == 0) {
                return;
            }
            maze.undo();
            twin.undo();
            Check.same(what + ": the digest of a saved state", maze.digest(), twin.digest());
        }
        Check.same(what + ": no more saved states", maze.count(10), 0);
        Check.same(what + ": the length of the buffer", maze.clearBuffer(), twin.clearBuffer());
    }

    // ---- "if there is no such output", "or row", "input"

    private static void noSuchOutput() {
        for (int output : NO_OUTPUTS) {
            refusedInAll("set(" + output + ", 0, 1)", 4, OUTSIDE, maze -> maze.set(output, 0, 1));
            refusedInAll("invert(" + output + ")", 4, OUTSIDE, maze -> maze.invert(output));
            refusedInAll("join(" + output + ", 0)", 4, OUTSIDE, maze -> maze.join(output, 0));
            refusedInAll("at(" + output + ", 0, 0)", 4, OUTSIDE, maze -> maze.at(output, 0, 0));
            refusedInAll("output(" + output + ", 0)", 4, OUTSIDE, maze -> maze.output(output, 0));
            refusedInAll("product(" + output + ", 0, 0)", 4, OUTSIDE, maze -> maze.product(output, 0, 0));
            refusedInAll("needs(" + output + ")", 4, OUTSIDE, maze -> maze.needs(output));
            refusedInAll("alike(" + output + ", 0)", 4, OUTSIDE, maze -> maze.alike(output, 0));
            refusedInAll("nearest(" + output + ", 0)", 4, OUTSIDE, maze -> maze.nearest(output, 0));
        }
    }

    private static void noSuchOtherOutput() {
        for (int other : NO_OUTPUTS) {
            refusedInAll("join(0, " + other + ")", 4, OUTSIDE, maze -> maze.join(0, other));
            refusedInAll("join(3, " + other + ")", 4, OUTSIDE, maze -> maze.join(3, other));
            refusedInAll("alike(0, " + other + ")", 4, OUTSIDE, maze -> maze.alike(0, other));
            refusedInAll("alike(" + other + ", " + other + ")", 4, OUTSIDE, maze -> maze.alike(other, other));
        }
    }

    /** By the present number of inputs: the first number that is no row any more is 2, 4, 8, 16, 32, 64. */
    private static void noSuchRow() {
        for (int inputs = 1; inputs <= 6; inputs++) {
            for (int row : new int[] {-1, 1 << inputs, 64, LEAST, MOST, -(1 << inputs)}) {
                refusedInAll("set(0, " + row + ", 1)", inputs, OUTSIDE, maze -> maze.set(0, row, 1));
                refusedInAll("ask(" + row + ")", inputs, OUTSIDE, maze -> maze.ask(row));
                refusedInAll("at(3, " + row + ", 0)", inputs, OUTSIDE, maze -> maze.at(3, row, 0));
                refusedInAll("nearest(1, " + row + ")", inputs, OUTSIDE, maze -> maze.nearest(1, row));
            }
        }
    }

    /** By the present number of inputs; 32 and 33 are no inputs, though a shift takes them for 0 and 1. */
    private static void noSuchInput() {
        for (int inputs = 1; inputs <= 6; inputs++) {
            for (int input : new int[] {-1, inputs, 6, 32, 33, LEAST, MOST}) {
                refusedInAll("forget(" + input + ")", inputs, OUTSIDE, maze -> maze.forget(input));
                refusedInAll("remember(" + input + ")", inputs, OUTSIDE, maze -> maze.remember(input));
                refusedInAll("ifForgotten(" + input + ", 0)", inputs, OUTSIDE, maze -> maze.ifForgotten(input, 0));
                refusedInAll("ifForgotten(" + input + ", 1)", inputs, OUTSIDE, maze -> maze.ifForgotten(input, 1));
            }
        }
    }

    // ---- what single calls refuse

    private static void beginOutOfRange() {
        for (int inputs : new int[] {0, 7, -1, 32, 64, LEAST, MOST}) {
            refusedInAll("begin(" + inputs + ")", 4, UNSOUND, maze -> maze.begin(inputs));
        }
        refused("begin(0) of a new object", new GateMaze(), new GateMaze(), UNSOUND, maze -> maze.begin(0));
    }

    private static void truthOutOfRange() {
        for (int truth : new int[] {-1, 3, LEAST, MOST}) {
            refusedInAll("set(0, 0, " + truth + ")", 1, UNSOUND, maze -> maze.set(0, 0, truth));
            refusedInAll("set(3, 63, " + truth + ")", 6, UNSOUND, maze -> maze.set(3, 63, truth));
        }
    }

    private static void joinOfTheSame() {
        for (int output = 0; output < 4; output++) {
            int same = output;
            refusedInAll("join(" + same + ", " + same + ")", 3, UNSOUND, maze -> maze.join(same, same));
        }
    }

    private static void forgetOfForgotten() {
        for (int inputs = 1; inputs <= 6; inputs++) {
            for (int state = 1; state < STATES; state++) {
                refused("forget(0) if forgotten", made(state, inputs), made(state, inputs), NOT_NOW, maze -> maze.forget(0));
            }
            int last = inputs - 1;
            refused("forget of the last one, passed", made(2, inputs), made(2, inputs), NOT_NOW, maze -> maze.forget(last));
        }
    }

    private static void rememberOfRemembered() {
        for (int inputs = 1; inputs <= 6; inputs++) {
            int last = inputs - 1;
            refused("remember(0) if remembered", made(0, inputs), made(0, inputs), NOT_NOW, maze -> maze.remember(0));
            refused("remember of the last one", made(0, inputs), made(0, inputs), NOT_NOW, maze -> maze.remember(last));
        }
        refused("remember(1) beside 0", made(1, 2), made(1, 2), NOT_NOW, maze -> maze.remember(1));
        GateMaze again = made(1, 2);
        GateMaze twin = made(1, 2);
        again.remember(0);
        twin.remember(0);
        refused("remember(0) twice", again, twin, NOT_NOW, maze -> maze.remember(0));
    }

    private static void hoursOutOfRange() {
        for (int hours : new int[] {0, 7, -1, LEAST, MOST}) {
            refusedInAll("pass(" + hours + ")", 6, UNSOUND, maze -> maze.pass(hours));
            refusedInAll("pass(" + hours + ")", 1, UNSOUND, maze -> maze.pass(hours));
        }
    }

    private static void codeOutOfRange() {
        for (int code : new int[] {32, 127, 0, -1, 33 + 256, 33 + 65536, LEAST, MOST}) {
            for (int state = 0; state <= 2; state++) {
                refused("append(" + code + ")", made(state, 3), made(state, 3), UNSOUND, maze -> maze.append(code));
            }
        }
    }

    private static void appendToFullBuffer() {
        for (int code : new int[] {33, 48, 126}) {
            refused("append(" + code + ") to 60", made(3, 3), made(3, 3), NOT_NOW, maze -> maze.append(code));
        }
    }

    /** A buffer of 60 characters is never a complete table: with n inputs a table has a multiple of n + 5, less one. */
    private static void fillOfNoTable() {
        String[] texts = {
            "", "1", "1=", "1=0", "1=0:", "1=0:1,", "1=0:1,0", "1=0:1,0=0:", ",1=0:1", "1=0:1,,0=0:1", "11=0:1", "=0:1",
            "1=0:11", "1=4:1", "1=0:3", "2=0:1", "x=0:1", "1=-:1", "1=0:-", "1-0:1", "1=0=1", "1=0:1;0=0:1", "1=0:1.",
            "-=0:0,".repeat(10), "~".repeat(60),
        };
        for (String text : texts) {
            for (int state = 0; state < STATES; state++) {
                GateMaze maze = made(state, 1);
                GateMaze twin = made(state, 1);
                maze.clearBuffer();
                twin.clearBuffer();
                Mazes.type(maze, text);
                Mazes.type(twin, text);
                refused("fill of " + text, maze, twin, UNSOUND, GateMaze::fill);
            }
        }
    }

    private static void undoOfNothing() {
        refused("undo of a new object", new GateMaze(), new GateMaze(), NOT_NOW, GateMaze::undo);
        GateMaze maze = made(2, 3);
        GateMaze twin = made(2, 3);
        for (int left = 5; left >= 0; left--) {
            Check.same("undo", maze.undo(), left);
            Check.same("undo", twin.undo(), left);
        }
        refused("undo of a seventh", maze, twin, NOT_NOW, GateMaze::undo);
    }

    private static void whatOutOfRange() {
        for (int what : new int[] {-1, LEAST, MOST}) {
            whatRefused(what, what, what, what, what);
        }
        whatRefused(3, 11, 4, 11, 2);
        whatRefused(4, 12, 5, 12, 3);
    }

    private static void whatRefused(int at, int output, int product, int count, int ifForgotten) {
        refusedInAll("at(0, 0, " + at + ")", 2, UNSOUND, maze -> maze.at(0, 0, at));
        refusedInAll("at(3, 3, " + at + ")", 2, UNSOUND, maze -> maze.at(3, 3, at));
        refusedInAll("output(3, " + output + ")", 2, UNSOUND, maze -> maze.output(3, output));
        refusedInAll("product(3, 0, " + product + ")", 2, UNSOUND, maze -> maze.product(3, 0, product));
        refusedInAll("count(" + count + ")", 2, UNSOUND, maze -> maze.count(count));
        refusedInAll("ifForgotten(1, " + ifForgotten + ")", 2, UNSOUND, maze -> maze.ifForgotten(1, ifForgotten));
        // The input 0 is forgotten in all states but the first.
        refusedInAll("ifForgotten(0, " + ifForgotten + ")", 2, UNSOUND, maze -> maze.ifForgotten(0, ifForgotten));
    }

    /** The places are 0 to 63 whatever the number of rows is, and whatever the cover has. */
    private static void placeOutOfRange() {
        for (int inputs = 1; inputs <= 6; inputs++) {
            for (int place : new int[] {-1, 64, LEAST, MOST}) {
                refusedInAll("product(1, " + place + ", 0)", inputs, UNSOUND, maze -> maze.product(1, place, 0));
                refusedInAll("product(1, " + place + ", 4)", inputs, UNSOUND, maze -> maze.product(1, place, 4));
            }
            GateMaze maze = made(2, inputs);
            Check.same("the place 63 of " + inputs + " inputs", maze.product(1, 63, 3), -1);
        }
    }

    // ---- "the one that is named first in the throws clause is thrown"

    private static void firstNamedForOutputs() {
        for (int output : NO_OUTPUTS) {
            refusedInAll("set(" + output + ", 0, 3)", 2, OUTSIDE, maze -> maze.set(output, 0, 3));
            refusedInAll("set(" + output + ", 4, -1)", 2, OUTSIDE, maze -> maze.set(output, 4, -1));
            refusedInAll("join(" + output + ", " + output + ")", 2, OUTSIDE, maze -> maze.join(output, output));
            refusedInAll("at(" + output + ", 0, 3)", 2, OUTSIDE, maze -> maze.at(output, 0, 3));
            refusedInAll("at(" + output + ", -1, -1)", 2, OUTSIDE, maze -> maze.at(output, -1, -1));
            refusedInAll("output(" + output + ", 11)", 2, OUTSIDE, maze -> maze.output(output, 11));
            refusedInAll("output(" + output + ", -1)", 2, OUTSIDE, maze -> maze.output(output, -1));
            refusedInAll("product(" + output + ", 64, 0)", 2, OUTSIDE, maze -> maze.product(output, 64, 0));
            refusedInAll("product(" + output + ", 0, 4)", 2, OUTSIDE, maze -> maze.product(output, 0, 4));
            refusedInAll("product(" + output + ", -1, -1)", 2, OUTSIDE, maze -> maze.product(output, -1, -1));
        }
    }

    private static void firstNamedForRows() {
        for (int inputs = 1; inputs <= 6; inputs++) {
            for (int row : new int[] {-1, 1 << inputs}) {
                refusedInAll("set(0, " + row + ", 3)", inputs, OUTSIDE, maze -> maze.set(0, row, 3));
                refusedInAll("set(3, " + row + ", -1)", inputs, OUTSIDE, maze -> maze.set(3, row, -1));
                refusedInAll("at(0, " + row + ", 3)", inputs, OUTSIDE, maze -> maze.at(0, row, 3));
                refusedInAll("at(3, " + row + ", -1)", inputs, OUTSIDE, maze -> maze.at(3, row, -1));
            }
        }
    }

    private static void firstNamedForInputs() {
        for (int inputs = 1; inputs <= 6; inputs++) {
            for (int input : new int[] {-1, inputs}) {
                refusedInAll("ifForgotten(" + input + ", 2)", inputs, OUTSIDE, maze -> maze.ifForgotten(input, 2));
                refusedInAll("ifForgotten(" + input + ", -1)", inputs, OUTSIDE, maze -> maze.ifForgotten(input, -1));
            }
        }
    }

    private static void firstNamedForCodes() {
        for (int code : new int[] {32, 127, -1, 0, LEAST, MOST}) {
            refused("append(" + code + ") to 60", made(3, 3), made(3, 3), UNSOUND, maze -> maze.append(code));
        }
    }
}
