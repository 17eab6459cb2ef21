/** Promises 10 to 14: append, clearBuffer, firstError, fill, undo. */
public final class TextsTest {
    private static final Class<IllegalArgumentException> UNSOUND = IllegalArgumentException.class;
    private static final Class<IllegalStateException> NOT_NOW = IllegalStateException.class;

    public static void main(String[] args) {
        append();
        appendRefuses();
        clearBuffer();
        firstError();
        firstErrorOfEachPlace();
        fill();
        fillInOrder();
        fillOfManyInputs();
        fillRefuses();
        undo();
        undoOfAll();
        Check.end("TextsTest");
    }

    private static void append() {
        GateMaze maze = new GateMaze();
        Check.same("append(33)", maze.append(33), 1);
        Check.same("append(126)", maze.append(126), 2);
        Check.same("append saves nothing", maze.count(10), 0);
        for (int length = 3; length <= 60; length++) {
            Check.same("append up to " + length, maze.append(48), length);
        }
        Check.same("the length of the buffer", maze.clearBuffer(), 60);
    }

    private static void appendRefuses() {
        GateMaze maze = new GateMaze();
        maze.append(50);
        for (int code : new int[] {32, 127, 0, -1, 304, Integer.MIN_VALUE, Integer.MAX_VALUE}) {
            Check.refused("append(" + code + ")", maze, UNSOUND, () -> maze.append(code));
        }
        for (int length = 2; length <= 60; length++) {
            maze.append(40);
        }
        Check.refused("append to 60 characters", maze, NOT_NOW, () -> maze.append(48));
        Check.refused("append(32) to 60 characters", maze, UNSOUND, () -> maze.append(32));
        Check.refused("append(127) to 60 characters", maze, UNSOUND, () -> maze.append(127));
        Check.same("the length of the buffer", maze.clearBuffer(), 60);
        Check.same("append to the cleared buffer", maze.append(49), 1);
    }

    private static void clearBuffer() {
        GateMaze maze = new GateMaze();
        Check.same("clearBuffer of nothing", maze.clearBuffer(), 0);
        Mazes.type(maze, "0x1");
        Check.same("clearBuffer", maze.clearBuffer(), 3);
        Check.same("clearBuffer again", maze.clearBuffer(), 0);
        Check.same("it saves nothing", maze.count(10), 0);
        maze.append(57);
        Check.same("what is appended then stands first", maze.firstError(), 0);
        Check.same("the digest has the new code alone", maze.digest(), Mazes.digest(TextsTest::nine, "9"));
    }

    private static GateMaze nine() {
        GateMaze maze = new GateMaze();
        maze.append(57);
        return maze;
    }

    private static int firstErrorOf(int inputs, String text) {
        GateMaze maze = Mazes.of(inputs);
        Mazes.type(maze, text);
        int place = maze.firstError();
        Check.same("firstError leaves the buffer", maze.clearBuffer(), text.length());
        return place;
    }

    private static void firstError() {
        Check.same("nothing", firstErrorOf(4, ""), 0);
        Check.same("a whole product", firstErrorOf(4, "01-1=3:2"), 8);
        Check.same("part of a product", firstErrorOf(4, "01-"), 3);
        Check.same("a comma behind it", firstErrorOf(4, "01-1=3:2,"), 9);
        Check.same("no second comma", firstErrorOf(4, "01-1=3:2,,"), 9);
        Check.same("a comma at first", firstErrorOf(4, ",01-1=3:2"), 0);
        Check.same("more than a truth", firstErrorOf(4, "01-1=3:22"), 8);
        Check.same("an error in the second product", firstErrorOf(4, "01-1=3:2,01x1=3:2"), 11);
        Check.same("the first of two errors", firstErrorOf(4, "0a-b=3:2"), 1);
        Check.same("one input", firstErrorOf(1, "-=0:0,1=3:2,0=2:1"), 17);
        Check.same("one input, two values", firstErrorOf(1, "01=0:0"), 1);
        Check.same("six inputs", firstErrorOf(6, "01-01-=0:0,------=1:1"), 21);
        Check.same("six inputs, five values", firstErrorOf(6, "01-01=0:0"), 5);
        // A table of any length: the 60 characters are no bound for it.
        Check.same("60 characters of tables", firstErrorOf(1, "-=0:0,".repeat(10)), 60);
        Check.same("60 characters, cut off", firstErrorOf(6, "------=0:0,".repeat(5) + "-----"), 60);
        GateMaze maze = Mazes.of(4);
        Mazes.type(maze, "011=0:0");
        Check.same("of four inputs", maze.firstError(), 3);
        maze.begin(3);
        Check.same("of three inputs now", maze.firstError(), 7);
        maze.undo();
        Check.same("of four inputs again", maze.firstError(), 3);
    }

    private static void firstErrorOfEachPlace() {
        String whole = "01=0:0,";
        String[] fitting = {"01-", "01-", "=", "0123", ":", "012", ","};
        for (int place = 0; place < whole.length(); place++) {
            for (int code = 33; code <= 126; code++) {
                GateMaze maze = Mazes.of(2);
                Mazes.type(maze, whole + whole.substring(0, place) + (char) code);
                int at = whole.length() + place;
                boolean fits = fitting[place].indexOf(code) >= 0;
                Check.same("the code " + code + " at the place " + place, maze.firstError(), fits ? at + 1 : at);
            }
        }
    }

    private static void fill() {
        GateMaze maze = Mazes.of(2, "0000", "0120");
        maze.forget(0);
        Mazes.type(maze, "1-=0:1");
        Check.same("fill", maze.fill(), 2);
        Check.same("filled, whatever is forgotten", Mazes.rows(maze, 0, 0), "0101");
        Check.same("the buffer is cleared", maze.clearBuffer(), 0);
        Check.same("undo of fill", maze.undo(), 4);
        Check.same("truths of before", Mazes.rows(maze, 0, 0), "0000");
        Check.same("the buffer does not come back", maze.clearBuffer(), 0);
        Check.same("fill with what is there", Mazes.fill(maze, "00=1:0,10=1:1,01=1:2"), 0);
        Check.same("it is saved all the same", maze.undo(), 4);
        Check.same("the input 0 comes first", Mazes.fill(maze, "10=3:2"), 1);
        Check.same("filled", Mazes.rows(maze, 3, 0), "0200");
        Check.same("the input 1 comes second", Mazes.fill(maze, "-1=2:1"), 2);
        Check.same("filled", Mazes.rows(maze, 2, 0), "0011");
        Check.same("all rows", Mazes.fill(maze, "--=1:2"), 3);
        Check.same("filled", Mazes.rows(maze, 1, 0), "2222");
    }

    private static void fillInOrder() {
        GateMaze maze = Mazes.of(2, "0011");
        Check.same("what comes later stands", Mazes.fill(maze, "--=0:1,1-=0:2,11=0:1"), 2);
        Check.same("filled", Mazes.rows(maze, 0, 0), "1211");
        Check.same("there and back is no change", Mazes.fill(maze, "--=0:0,00=0:1,10=0:2,-1=0:1"), 0);
        maze.undo();
        maze.undo();
        Check.same("undo as one call", Mazes.rows(maze, 0, 0), "0011");
        Check.same("two outputs", Mazes.fill(maze, "0-=1:1,0-=2:2,1-=3:1"), 6);
        Check.same("filled 1", Mazes.rows(maze, 1, 0), "1010");
        Check.same("filled 2", Mazes.rows(maze, 2, 0), "2020");
        Check.same("filled 3", Mazes.rows(maze, 3, 0), "0101");
        Check.same("truths 1 to 2 are changes", Mazes.fill(maze, "--=1:2"), 4);
        Check.same("truths 2 to 1 are changes", Mazes.fill(maze, "--=2:1"), 4);
    }

    private static void fillOfManyInputs() {
        GateMaze maze = Mazes.of(6);
        Check.same("six inputs", Mazes.fill(maze, "-----1=3:1"), 32);
        Check.same("filled", Mazes.rows(maze, 3, 0), "0".repeat(32) + "1".repeat(32));
        Check.same("one row of them", Mazes.fill(maze, "100001=3:2"), 1);
        Check.same("the row 33", maze.at(3, 33, 0), 2);
        Check.same("all rows", Mazes.fill(maze, "------=0:1,------=1:2,------=2:1,------=3:0"), 64 * 3 + 32);
        Check.same("one input", Mazes.fill(Mazes.of(1), "1=0:1,0=1:1,-=2:1,1=3:2,0=3:2,1=3:0"), 5);
    }

    private static void fillRefuses() {
        GateMaze maze = Mazes.of(2, "0120");
        String[] texts = {
            "", "0", "01", "01=", "01=0", "01=0:", "01=0:0,", "01=0:0,1", "01=0:0,11=0:", "01=4:0", "01=0:3", "0=0:0",
            "011=0:0", "01=0:00", ",01=0:0", "01=0:0,,01=0:0", "01:0=0", "0x=0:0", "01=0:0;01=0:0", "01=0:0x",
        };
        for (String text : texts) {
            maze.clearBuffer();
            Mazes.type(maze, text);
            Check.refused("fill of " + text, maze, UNSOUND, maze::fill);
            Check.same("the buffer of a refused fill", maze.clearBuffer(), text.length());
        }
        Check.same("truths behind refused fills", Mazes.rows(maze, 0, 0), "0120");
        Mazes.type(maze, "01=0:1");
        maze.begin(3);
        Check.refused("fill of two inputs' text with three", maze, UNSOUND, maze::fill);
        maze.begin(2);
        Check.same("fill with two inputs again", maze.fill(), 1);
    }

    private static void undo() {
        GateMaze maze = new GateMaze();
        Check.refused("undo of nothing", maze, NOT_NOW, maze::undo);
        maze.set(0, 0, 1);
        maze.set(0, 1, 1);
        Check.same("undo", maze.undo(), 1);
        Check.same("undone", maze.output(0, 0), 1);
        Check.same("undo", maze.undo(), 0);
        Check.same("undone", maze.output(0, 0), 0);
        Check.refused("undo of no more", maze, NOT_NOW, maze::undo);
        for (int row = 0; row < 9; row++) {
            maze.set(2, row, 1);
        }
        Check.same("at most 6 are saved", maze.count(10), 6);
        for (int left = 5; left >= 0; left--) {
            Check.same("undo of 6", maze.undo(), left);
        }
        Check.same("the oldest ones are dropped", Mazes.rows(maze, 2, 0), "1110000000000000");
        Check.refused("undo of a seventh", maze, NOT_NOW, maze::undo);
        maze.set(2, 15, 2);
        Check.same("saved again", maze.count(10), 1);
        maze.undo();
        Check.same("undone", Mazes.rows(maze, 2, 0), "1110000000000000");
        undoAmongSaving();
    }

    /** Saved states come back in their order, also when undo and saving take turns round the bound of 6. */
    private static void undoAmongSaving() {
        GateMaze maze = new GateMaze();
        for (int row = 0; row < 8; row++) {
            maze.set(0, row, 1);
        }
        maze.undo();
        maze.undo();
        for (int row = 8; row < 12; row++) {
            maze.set(0, row, 2);
        }
        String[] due = {
            "1111110022200000", "1111110022000000", "1111110020000000", "1111110000000000", "1111100000000000",
            "1111000000000000",
        };
        for (int i = 0; i < due.length; i++) {
            Check.same("undo among saving", maze.undo(), 5 - i);
            Check.same("undo among saving", Mazes.rows(maze, 0, 0), due[i]);
        }
    }

    private static void undoOfAll() {
        for (int calls = 0; calls < 6; calls++) {
            GateMaze maze = behind(6);
            for (int undone = 6; undone > calls; undone--) {
                maze.undo();
            }
            Check.same("the state of before the call " + calls, withoutSaved(maze), withoutSaved(behind(calls)));
            Check.same("the buffer stays with undo", maze.clearBuffer(), 2);
        }
    }

    private static GateMaze behind(int calls) {
        GateMaze maze = Mazes.of(3, "01101001", "00010111");
        maze.forget(1);
        maze.ask(3);
        maze.pass(1);
        maze.ask(4);
        Mazes.type(maze, "11");
        Runnable[] all = {
            () -> maze.begin(5), () -> maze.set(1, 3, 2), () -> maze.invert(0), () -> maze.forget(4),
            () -> maze.ask(3), () -> maze.pass(2),
        };
        for (int i = 0; i < calls; i++) {
            all[i].run();
        }
        return maze;
    }

    /** A hash of all but the saved states. */
    private static long withoutSaved(GateMaze maze) {
        long hash = 0;
        for (int what = 0; what < 10; what++) {
            hash = 31 * hash + maze.count(what);
        }
        for (int output = 0; output < 4; output++) {
            hash = 31 * hash + Mazes.rows(maze, output, 0).hashCode();
            hash = 31 * hash + Mazes.numbers(maze, output).hashCode();
        }
        return hash;
    }
}
