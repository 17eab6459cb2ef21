import java.util.function.Supplier;

/** The promises: each sentence that names a boundary of a call's numbers or answers has a test of its own. */
public final class EdgesOfCallsTest {
    public static void main(String[] args) {
        beginOfEachNumber();
        setOfEachTruth();
        invertTwice();
        joinOfEachPair();
        forgetAndRememberAll();
        passOfEachNumber();
        passAsOneCall();
        askOfEachRow();
        appendOfEachCode();
        appendUpTo60();
        clearBufferOfEachLength();
        firstErrorByPresentInputs();
        fillOfTheLongestTables();
        fillOneAfterTheOther();
        fillAfterALongerText();
        fillWhateverIsForgotten();
        undoToTheFirst();
        atOfEachKind();
        outputOfEachNumber();
        productOfEachPlace();
        countOfEachNumber();
        ifForgottenTellsWhatForgettingDoes();
        ifForgottenOfTheLast();
        needsOfEachPair();
        harmlessIsTheMost();
        alikeWithItself();
        nearestOfEachRow();
        decidedShareOfEachDivisor();
        digestWrapsAround();
        Check.end("EdgesOfCallsTest");
    }

    private static String filled(int row, char one, int rows, char rest) {
        return String.valueOf(rest).repeat(row) + one + String.valueOf(rest).repeat(rows - 1 - row);
    }

    // ---- promises 2 to 5

    /** "inputs: 1 to 6"; "Returns the previous number of inputs."; "what is counted so far stays" */
    private static void beginOfEachNumber() {
        for (int from = 1; from <= 6; from++) {
            for (int to = 1; to <= 6; to++) {
                GateMaze maze = Mazes.of(from);
                maze.invert(0);
                Mazes.fill(maze, "-".repeat(from) + "=1:2");
                maze.set(3, 0, 1);
                maze.pass(6);
                maze.ask(0);
                Check.same("begin", maze.begin(to), from);
                Check.same("counts", Mazes.counts(maze), to + " " + ((1 << to) - 1) + " 0 0 0 0 1 1 1 " + from + " 6");
                for (int output = 0; output < 4; output++) {
                    Check.same("truths", Mazes.rows(maze, output, 0), "0".repeat(1 << to));
                }
                Check.same("alarms of 3", maze.output(3, 8), 1);
                Check.same("faults of 3", maze.output(3, 9), 1);
                Check.same("undo", maze.undo(), 5);
                Check.same("inputs behind undo", maze.count(0), from);
                Check.same("truths behind undo", Mazes.rows(maze, 1, 0), "2".repeat(1 << from));
            }
        }
    }

    /** "truth: 0 to 2"; "Returns the previous truth." */
    private static void setOfEachTruth() {
        GateMaze maze = Mazes.of(6);
        for (int row : new int[] {0, 31, 32, 63}) {
            int previous = 0;
            for (int truth : new int[] {0, 1, 1, 2, 2, 0, 2, 1, 0}) {
                Check.same("set(3, " + row + ", " + truth + ")", maze.set(3, row, truth), previous);
                Check.same("the truth", maze.at(3, row, 0), truth);
                previous = truth;
            }
        }
        Check.same("all is as it was", Mazes.rows(maze, 3, 0), "0".repeat(64));
        maze.set(0, 31, 1);
        Check.same("one row alone", Mazes.rows(maze, 0, 0), filled(31, '1', 64, '0'));
    }

    /** "0 becomes 1, and 1 becomes 0"; "Returns how many of its truths are 1 then." */
    private static void invertTwice() {
        for (int inputs = 1; inputs <= 6; inputs++) {
            int rows = 1 << inputs;
            GateMaze maze = Mazes.of(inputs, filled(rows - 1, '2', rows, '0'));
            Check.same("invert", maze.invert(0), rows - 1);
            Check.same("truths", Mazes.rows(maze, 0, 0), filled(rows - 1, '2', rows, '1'));
            Check.same("invert", maze.invert(0), 0);
            Check.same("truths", Mazes.rows(maze, 0, 0), filled(rows - 1, '2', rows, '0'));
        }
    }

    /** "1 if one of both is 1, otherwise 2 if one of both is 2, otherwise 0"; "how many of its truths are 1 then" */
    private static void joinOfEachPair() {
        String[] due = {"012", "111", "212"};
        for (int own = 0; own <= 2; own++) {
            for (int other = 0; other <= 2; other++) {
                GateMaze maze = Mazes.of(1, "0" + own, "0" + other);
                int joined = due[own].charAt(other) - '0';
                Check.same("join of " + own + " and " + other, maze.join(0, 1), joined == 1 ? 1 : 0);
                Check.same("joined", Mazes.rows(maze, 0, 0), "0" + joined);
                Check.same("the other one", Mazes.rows(maze, 1, 0), "0" + other);
            }
        }
        GateMaze all = Mazes.of(6);
        all.invert(3);
        Check.same("all rows", all.join(0, 3), 64);
        Check.same("none of them", all.join(1, 2), 0);
    }

    // ---- promises 6 to 9

    /** "Returns how many pairs of an output and a row are undecided then." */
    private static void forgetAndRememberAll() {
        for (int inputs = 1; inputs <= 6; inputs++) {
            int rows = 1 << inputs;
            String one = filled(rows - 1, '1', rows, '0');
            GateMaze maze = Mazes.of(inputs, one, one, one, one);
            for (int input = 0; input < inputs; input++) {
                Check.same("forget(" + input + ")", maze.forget(input), 4 * (2 << input));
                Check.same("count(2)", maze.count(2), 4 * (2 << input));
            }
            Check.same("all forgotten", maze.count(1), 0);
            for (int input = 0; input < inputs; input++) {
                int due = input == inputs - 1 ? 0 : rows * 4 / (2 << input);
                Check.same("remember(" + input + ")", maze.remember(input), due);
                Check.same("remembered", maze.count(1), (2 << input) - 1);
            }
        }
    }

    /** "hours: 1 to 6"; "as long as inputs are remembered"; "Returns how many inputs are remembered then." */
    private static void passOfEachNumber() {
        for (int inputs = 1; inputs <= 6; inputs++) {
            for (int hours = 1; hours <= 6; hours++) {
                GateMaze maze = Mazes.of(inputs);
                int due = Math.max(0, inputs - hours);
                Check.same("pass(" + hours + ") of " + inputs, maze.pass(hours), due);
                Check.same("hours in which an input was forgotten", maze.count(9), inputs - due);
                Check.same("remembered", Integer.bitCount(maze.count(1)), due);
                maze.pass(6);
                Check.same("no more than there are", maze.count(9), inputs);
                Check.same("none are left", maze.pass(1), 0);
            }
        }
    }

    /** "Lets hours pass, one after the other"; "Undoable, as one call." */
    private static void passAsOneCall() {
        for (int hours = 1; hours <= 6; hours++) {
            GateMaze one = Mazes.of(5, "01101001100101100110100110010110", "00010010010000100100001000010111");
            GateMaze many = Mazes.of(5, "01101001100101100110100110010110", "00010010010000100100001000010111");
            one.undo();
            int left = one.pass(hours);
            Check.same("saved by one call", one.count(10), 6);
            many.undo();
            int leftOfMany = 0;
            for (int hour = 0; hour < hours; hour++) {
                leftOfMany = many.pass(1);
            }
            Check.same("hours one by one", left, leftOfMany);
            Check.same("remembered", one.count(1), many.count(1));
            Check.same("undecided", one.count(2), many.count(2));
            Check.same("hours", one.count(9), many.count(9));
            one.undo();
            Check.same("undone: remembered", one.count(1), 31);
            Check.same("undone: hours", one.count(9), 0);
        }
    }

    /** "Returns the answers of the outputs: bit k for the output k." */
    private static void askOfEachRow() {
        GateMaze maze = Mazes.of(4, "0101010101010101", "0011001100110011", "0000111100001111", "0000000011111111");
        for (int row = 0; row < 16; row++) {
            Check.same("ask(" + row + ")", maze.ask(row), row);
        }
        maze.forget(1);
        for (int row = 0; row < 16; row++) {
            Check.same("ask(" + row + ") without 1", maze.ask(row), row & ~2);
        }
        Check.same("asks", maze.count(6), 32);
        Check.same("alarms", maze.output(1, 8), 16);
        Check.same("faults", maze.output(1, 9), 8);
        Check.same("alarms of all", maze.count(7), 16);
    }

    // ---- promises 10 to 14

    /** "code: the character code, 33 to 126" */
    private static void appendOfEachCode() {
        for (int code = 33; code <= 126; code++) {
            GateMaze maze = new GateMaze();
            Check.same("append(" + code + ")", maze.append(code), 1);
            Check.same("append(126)", maze.append(126), 2);
            Check.same("append(33)", maze.append(33), 3);
            boolean fits = code == '0' || code == '1' || code == '-';
            Check.same("firstError", maze.firstError(), fits ? 1 : 0);
            String buffer = (char) code + "~!";
            Check.same("digest", maze.digest(), Mazes.digest(() -> typed(buffer), buffer));
        }
    }

    private static GateMaze typed(String buffer) {
        GateMaze maze = new GateMaze();
        Mazes.type(maze, buffer);
        return maze;
    }

    /** "Throws IllegalStateException if the buffer has 60 characters": the 60th still goes. */
    private static void appendUpTo60() {
        GateMaze maze = new GateMaze();
        Mazes.type(maze, "-".repeat(59));
        Check.same("the 60th", maze.append(126), 60);
        Check.refused("the 61st", maze, IllegalStateException.class, () -> maze.append(126));
        maze.clearBuffer();
        Mazes.type(maze, "-".repeat(59));
        Check.same("the 60th again", maze.append(33), 60);
    }

    /** "Returns the length that it had." */
    private static void clearBufferOfEachLength() {
        GateMaze maze = new GateMaze();
        for (int length = 0; length <= 60; length += length < 5 ? 1 : 11) {
            Mazes.type(maze, "!".repeat(length));
            Check.same("clearBuffer", maze.clearBuffer(), length);
            Check.same("it is empty", maze.clearBuffer(), 0);
        }
    }

    /** "the length of the buffer if there is none"; "(by the present number of inputs)" */
    private static void firstErrorByPresentInputs() {
        GateMaze maze = new GateMaze();
        Check.same("of nothing", maze.firstError(), 0);
        Mazes.type(maze, "-10=3:2,01-=0:0");
        int[] due = {1, 2, 15, 3, 3, 3};
        for (int inputs = 1; inputs <= 6; inputs++) {
            maze.begin(inputs);
            Check.same("of " + inputs + " inputs", maze.firstError(), due[inputs - 1]);
        }
        for (int inputs = 6; inputs >= 1; inputs--) {
            Check.same("behind undo, of " + inputs + " inputs", maze.firstError(), due[inputs - 1]);
            maze.undo();
        }
    }

    /** "if the buffer is not a complete table": those that fill most of the 60 characters are, one less or more is not. */
    private static void fillOfTheLongestTables() {
        for (int inputs = 1; inputs <= 6; inputs++) {
            int products = 61 / (inputs + 5);
            String table = ("-".repeat(inputs) + "=3:1,").repeat(products - 1) + "-".repeat(inputs) + "=3:1";
            GateMaze maze = Mazes.of(inputs);
            Mazes.type(maze, table.substring(0, table.length() - 1));
            Check.refused("one character too few", maze, IllegalArgumentException.class, maze::fill);
            maze.append(table.charAt(table.length() - 1));
            Check.same("no error", maze.firstError(), table.length());
            Check.same("all rows", maze.fill(), 1 << inputs);
            Check.same("cleared", maze.clearBuffer(), 0);
            if (table.length() < 60) {
                Mazes.type(maze, table + ",");
                Check.same("no error", maze.firstError(), table.length() + 1);
                Check.refused("one comma too many", maze, IllegalArgumentException.class, maze::fill);
            }
        }
    }

    /** "one product after the other: all rows in it get the truth"; "how many truths are others behind all of it" */
    private static void fillOneAfterTheOther() {
        GateMaze maze = Mazes.of(1);
        Check.same("ten products", Mazes.fill(maze, "-=0:1,-=1:2,1=0:0,0=1:0,-=2:2,-=2:0,1=3:1,1=3:2,1=3:1,0=3:2"), 4);
        Check.same("the output 0", Mazes.rows(maze, 0, 0), "10");
        Check.same("the output 1", Mazes.rows(maze, 1, 0), "02");
        Check.same("the output 2", Mazes.rows(maze, 2, 0), "00");
        Check.same("the output 3", Mazes.rows(maze, 3, 0), "21");
        Check.same("one save", maze.count(10), 2);
        Check.same("the same again", Mazes.fill(maze, "1=0:0,0=0:1"), 0);
        maze.undo();
        Check.same("undo as one call", maze.undo(), 1);
        for (int output = 0; output < 4; output++) {
            Check.same("undone", Mazes.rows(maze, output, 0), "00");
        }
        Check.same("each product by its own cares", Mazes.fill(maze, "1=0:1,-=1:1,0=2:1,-=3:2"), 6);
        Check.same("the output 1", Mazes.rows(maze, 1, 0), "11");
        Check.same("the output 3", Mazes.rows(maze, 3, 0), "22");
        Check.same("all truths of six inputs", Mazes.fill(Mazes.of(6), "------=0:1,------=1:2,------=2:1,------=3:2"), 256);
    }

    /** "and clears the buffer": nothing of a longer text before it is left. */
    private static void fillAfterALongerText() {
        GateMaze maze = Mazes.of(1);
        Mazes.fill(maze, "0=0:2,0=1:2,1=2:2");
        Check.same("a shorter table", Mazes.fill(maze, "1=0:1"), 1);
        Mazes.type(maze, "-=3:1,-=2:1");
        Check.same("a text that is cleared", maze.clearBuffer(), 11);
        Check.same("a table behind it", Mazes.fill(maze, "1=3:2"), 1);
        Check.same("the output 0", Mazes.rows(maze, 0, 0), "21");
        Check.same("the output 1", Mazes.rows(maze, 1, 0), "20");
        Check.same("the output 2", Mazes.rows(maze, 2, 0), "02");
        Check.same("the output 3", Mazes.rows(maze, 3, 0), "02");
    }

    /** "whatever is forgotten" */
    private static void fillWhateverIsForgotten() {
        GateMaze maze = Mazes.of(3);
        maze.pass(6);
        Check.same("one row", Mazes.fill(maze, "101=2:1"), 1);
        Check.same("truths", Mazes.rows(maze, 2, 0), "00000100");
        Check.same("decided", Mazes.rows(maze, 2, 1), "33333333");
        Check.same("nothing is remembered by it", maze.count(1), 0);
    }

    /** "Restores the latest saved state, and drops it."; "how many saved states are left" */
    private static void undoToTheFirst() {
        GateMaze maze = new GateMaze();
        maze.begin(3);
        maze.set(0, 7, 1);
        maze.invert(1);
        maze.join(2, 1);
        maze.forget(1);
        maze.remember(1);
        Check.same("the latest: remember", maze.undo(), 5);
        Check.same("remembered", maze.count(1), 5);
        Check.same("forget", maze.undo(), 4);
        Check.same("remembered", maze.count(1), 7);
        Check.same("join", maze.undo(), 3);
        Check.same("ones of 2", maze.output(2, 0), 0);
        Check.same("invert", maze.undo(), 2);
        Check.same("ones of 1", maze.output(1, 0), 0);
        Check.same("set", maze.undo(), 1);
        Check.same("ones of 0", maze.output(0, 0), 0);
        Check.same("begin", maze.undo(), 0);
        Check.same("inputs", maze.count(0), 4);
        Check.same("all is as at first", maze.digest(), new GateMaze().digest());
    }

    // ---- promises 15 to 18

    /** "what: 0: the truth; 1: what is decided, 0 to 3; 2: the answer" */
    private static void atOfEachKind() {
        GateMaze maze = Mazes.of(3, "02120211");
        Check.same("truths", Mazes.rows(maze, 0, 0), "02120211");
        Check.same("decided", Mazes.rows(maze, 0, 1), "02120211");
        maze.forget(0);
        Check.same("truths stay", Mazes.rows(maze, 0, 0), "02120211");
        Check.same("decided", Mazes.rows(maze, 0, 1), "00110011");
        maze.forget(2);
        Check.same("decided", Mazes.rows(maze, 0, 1), "00110011");
        maze.forget(1);
        Check.same("decided", Mazes.rows(maze, 0, 1), "33333333");
        Check.same("answers", Mazes.rows(maze, 0, 2), "00000000");
        Check.same("decided of an output beside it", Mazes.rows(maze, 3, 1), "00000000");
    }

    /** "what: 0: ...; 10: remembered inputs for which some product of its cover cares, as a bit mask" */
    private static void outputOfEachNumber() {
        for (int inputs = 1; inputs <= 6; inputs++) {
            int rows = 1 << inputs;
            String all = "1".repeat(rows);
            String last = filled(rows - 1, '1', rows, '0');
            GateMaze maze = Mazes.of(inputs, "2".repeat(rows), all, last);
            Check.same("all free", Mazes.numbers(maze, 0), "0 " + rows + " 0 " + rows + " 0 1 0 0 0 0 0");
            Check.same("all 1", Mazes.numbers(maze, 1), rows + " 0 " + rows + " 0 0 1 1 0 0 0 0");
            Check.same("the last", Mazes.numbers(maze, 2), "1 0 1 0 0 1 1 " + inputs + " 0 0 " + (rows - 1));
            Check.same("all 0", Mazes.numbers(maze, 3), "0 0 0 0 0 0 0 0 0 0 0");
            maze.pass(6);
            maze.ask(rows - 1);
            maze.ask(0);
            Check.same("the last, undecided", Mazes.numbers(maze, 2), "1 0 0 0 " + rows + " 1 0 0 2 1 0");
            Check.same("all free, forgotten", Mazes.numbers(maze, 0), "0 " + rows + " 0 " + rows + " 0 1 0 0 0 0 0");
        }
    }

    /** "place: its place in the cover, 0 to 63"; "NONE if the cover has not so many." */
    private static void productOfEachPlace() {
        for (int inputs = 1; inputs <= 6; inputs++) {
            int rows = 1 << inputs;
            GateMaze maze = Mazes.of(inputs);
            for (int row = 0; row < rows; row++) {
                if (Integer.bitCount(row) % 2 == 1) {
                    maze.set(3, row, 1);
                }
            }
            for (int place = 0; place < 64; place++) {
                boolean isThere = place < rows / 2;
                Check.same("cares of " + place, maze.product(3, place, 0), isThere ? rows - 1 : -1);
                Check.same("rows of " + place, maze.product(3, place, 2), isThere ? 1 : -1);
                Check.same("covers of " + place, maze.product(3, place, 3), isThere ? 1 : -1);
            }
            for (int what = 0; what <= 3; what++) {
                Check.same("none of an empty cover", maze.product(0, 0, what), -1);
                Check.same("none of an empty cover", maze.product(0, 63, what), -1);
            }
        }
        GateMaze shared = Mazes.of(1, "11", "12", "21", "11");
        Check.same("in four covers", shared.product(3, 0, 3), 4);
        Check.same("no cares", shared.product(3, 0, 0), 0);
        Check.same("no values", shared.product(3, 0, 1), 0);
        Check.same("both rows", shared.product(3, 0, 2), 2);
    }

    /** "what: 0: inputs; ...; 10: saved states" */
    private static void countOfEachNumber() {
        Check.same("a new object", Mazes.counts(new GateMaze()), "4 15 0 0 0 0 0 0 0 0 0");
        GateMaze maze = Mazes.of(6);
        Check.same("six inputs", Mazes.counts(maze), "6 63 0 0 0 0 0 0 0 0 1");
        Mazes.fill(maze, "1-----=0:1,1-----=1:1,11----=2:1,000000=3:2");
        Check.same("filled", Mazes.counts(maze), "6 63 0 2 1 3 0 0 0 0 2");
        maze.pass(1);
        Check.same("of the inputs that are missed not at all the lowest", Mazes.counts(maze), "6 59 0 2 1 3 0 0 0 1 3");
        maze.forget(0);
        Check.same("forget is no hour", Mazes.counts(maze), "6 58 160 0 0 0 0 0 0 1 4");
        maze.ask(63);
        Check.same("asked", Mazes.counts(maze), "6 58 160 0 0 0 1 3 3 1 5");
    }

    // ---- promises 19 to 25

    private static GateMaze mixed(int seed) {
        int inputs = 1 + seed % 6;
        int rows = 1 << inputs;
        GateMaze maze = Mazes.of(inputs);
        for (int i = 0; i < rows * 2; i++) {
            int drawn = (i * i * 3 + 5 * i * seed + seed * seed * 7 + i / 3) % 13;
            if (drawn < 9) {
                maze.set(i % 4, (i * 5 + seed) % rows, drawn % 3);
            }
        }
        for (int input = 0; input < inputs; input++) {
            if ((seed * 11 >> input & 3) == 1) {
                maze.forget(input);
            }
        }
        return maze;
    }

    /** "how many pairs of an output and a row would be undecided"; "how many parts there would be"; "NONE if it is forgotten" */
    private static void ifForgottenTellsWhatForgettingDoes() {
        for (int seed = 0; seed < 120; seed++) {
            GateMaze maze = mixed(seed);
            for (int input = 0; input < maze.count(0); input++) {
                int pairs = maze.ifForgotten(input, 0);
                int parts = maze.ifForgotten(input, 1);
                if ((maze.count(1) >> input & 1) == 0) {
                    Check.same("undecided if it is forgotten", pairs, -1);
                    Check.same("parts if it is forgotten", parts, -1);
                } else {
                    int before = maze.count(3);
                    Check.same("undecided by the seed " + seed, pairs, maze.forget(input));
                    Check.same("parts by the seed " + seed, parts, maze.count(3));
                    maze.undo();
                    Check.same("parts behind it", maze.count(3), before);
                }
            }
        }
    }

    private static void ifForgottenOfTheLast() {
        GateMaze maze = Mazes.of(6, filled(63, '1', 64, '0'));
        for (int input = 0; input < 5; input++) {
            maze.forget(input);
        }
        Check.same("the last that is remembered", maze.ifForgotten(5, 0), 64);
        Check.same("no parts without it", maze.ifForgotten(5, 1), 0);
        maze.forget(5);
        for (int input = 0; input < 6; input++) {
            Check.same("all are forgotten", maze.ifForgotten(input, 0), -1);
            Check.same("all are forgotten", maze.ifForgotten(input, 1), -1);
        }
    }

    /** "two rows that differ in it alone, of which one has the truth 0 and the other one 1" */
    private static void needsOfEachPair() {
        String[] truths = {"00", "01", "02", "10", "11", "12", "20", "21", "22"};
        int[] due = {0, 1, 0, 1, 0, 0, 0, 0, 0};
        for (int i = 0; i < truths.length; i++) {
            Check.same("needs of " + truths[i], Mazes.of(1, truths[i]).needs(0), due[i]);
        }
        for (int inputs = 1; inputs <= 6; inputs++) {
            int rows = 1 << inputs;
            for (int row = 0; row < rows; row += rows - 1) {
                GateMaze maze = Mazes.of(inputs, filled(row, '1', rows, '0'));
                Check.same("one row needs all", maze.needs(0), rows - 1);
                maze.pass(6);
                Check.same("whatever is forgotten", maze.needs(0), rows - 1);
            }
        }
    }

    private static boolean couldBeForgotten(Supplier<GateMaze> made, int set) {
        GateMaze maze = made.get();
        for (int input = 0; input < maze.count(0); input++) {
            boolean isRemembered = (maze.count(1) >> input & 1) == 1;
            if ((set >> input & 1) == 1 && isRemembered) {
                maze.forget(input);
            } else if ((set >> input & 1) == 0 && !isRemembered) {
                maze.remember(input);
            }
        }
        return maze.count(2) == 0;
    }

    /** "one with the most inputs, of several the one with the lowest number as a bit mask"; "(all others being remembered)" */
    private static void harmlessIsTheMost() {
        for (int seed = 0; seed < 60; seed++) {
            int which = seed;
            Supplier<GateMaze> made = () -> mixed(which);
            int best = 0;
            for (int set = 0; set < 1 << made.get().count(0); set++) {
                if (Integer.bitCount(set) > Integer.bitCount(best) && couldBeForgotten(made, set)) {
                    best = set;
                }
            }
            Check.same("harmless by the seed " + seed, made.get().harmless(), best);
        }
        Check.same("two single ones: the lowest", Mazes.of(2, "0221").harmless(), 1);
        Check.same("one of the most, though a higher number", Mazes.of(3, "01220122").harmless(), 6);
        Check.same("none: all are needed", Mazes.of(6, filled(0, '1', 64, '0')).harmless(), 0);
        Check.same("all: nothing is needed", Mazes.of(6).harmless(), 63);
    }

    /** "in how many rows two outputs answer alike"; both may be the same. */
    private static void alikeWithItself() {
        for (int inputs = 1; inputs <= 6; inputs++) {
            int rows = 1 << inputs;
            GateMaze maze = Mazes.of(inputs, "1".repeat(rows), filled(0, '1', rows, '0'));
            for (int output = 0; output < 4; output++) {
                Check.same("with itself", maze.alike(output, output), rows);
            }
            Check.same("one row", maze.alike(0, 1), 1);
            Check.same("one row", maze.alike(1, 0), 1);
            Check.same("none", maze.alike(0, 3), 0);
            Check.same("all but one", maze.alike(2, 1), rows - 1);
            Check.same("all", maze.alike(3, 2), rows);
        }
    }

    /** "the one that differs from the row in the fewest inputs, of several the lowest number; NONE if there is none" */
    private static void nearestOfEachRow() {
        for (int inputs = 1; inputs <= 6; inputs++) {
            int rows = 1 << inputs;
            int last = rows - 1;
            GateMaze maze = Mazes.of(inputs, filled(last, '1', rows, '0'));
            Check.same("NONE", maze.nearest(0, 0), -1);
            Check.same("NONE", maze.nearest(0, last), -1);
            maze.forget(inputs - 1);
            int low = last >> 1;
            for (int row = 0; row < rows; row++) {
                // The rows 0111.. and 1111.. are undecided: the one with the row's own last input is nearer.
                Check.same("nearest to " + row, maze.nearest(0, row), row >= rows / 2 ? last : low);
                Check.same("NONE of another output", maze.nearest(3, row), -1);
            }
        }
        GateMaze all = Mazes.of(6, filled(5, '1', 64, '0'));
        all.pass(6);
        for (int row = 0; row < 64; row++) {
            Check.same("the row itself", all.nearest(0, row), row);
        }
        // Undecided are 1, 2, 5, 6: two are one input apart from 0, 3, 4, 7.
        GateMaze ties = Mazes.of(3, "00100100");
        ties.forget(2);
        int[] due = {1, 1, 2, 1, 5, 5, 6, 5};
        for (int row = 0; row < 8; row++) {
            Check.same("of several the lowest, from " + row, ties.nearest(0, row), due[row]);
        }
    }

    /** "as a double, divided by the number of all pairs whose truth is 0 or 1; 1.0 if there are no such pairs" */
    private static void decidedShareOfEachDivisor() {
        GateMaze none = Mazes.of(6);
        for (int output = 0; output < 4; output++) {
            Mazes.fill(none, "------=" + output + ":2");
        }
        Check.same("no such pairs", none.decidedShare(), 1.0);
        none.pass(6);
        Check.same("no such pairs, forgotten", none.decidedShare(), 1.0);
        none.set(3, 63, 1);
        Check.same("one pair, decided", none.decidedShare(), 1.0);
        none.set(3, 0, 0);
        Check.same("two pairs, undecided", none.decidedShare(), 0.0);
        for (int others = 1; others <= 128; others++) {
            none.set(others % 2, others / 2 % 64, 1);
            Check.same("of " + (others + 2), none.decidedShare(), (double) others / (others + 2));
        }
        GateMaze all = Mazes.of(6, filled(63, '1', 64, '0'));
        all.forget(0);
        Check.same("of all 256", all.decidedShare(), 254.0 / 256.0);
    }

    /** "For each value v ... the hash becomes 31 * hash + v, in long arithmetic with overflow." */
    private static void digestWrapsAround() {
        digestIs(GateMaze::new, "");
        for (int seed = 0; seed < 24; seed++) {
            int which = seed;
            digestIs(() -> mixed(which), "");
            String buffer = "~".repeat(seed) + "!";
            digestIs(() -> {
                GateMaze maze = mixed(which);
                maze.ask(which % 2);
                maze.pass(1);
                maze.ask(1 - which % 2);
                Mazes.type(maze, buffer);
                return maze;
            }, buffer);
        }
    }

    private static void digestIs(Supplier<GateMaze> made, String buffer) {
        long due = Mazes.digest(made, buffer);
        GateMaze maze = made.get();
        Check.same("digest", maze.digest(), due);
        Check.same("digest, the second time", maze.digest(), due);
    }
}
