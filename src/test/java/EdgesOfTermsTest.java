/** The terms of the document: each sentence that names a boundary has a test of its own, with its words above it. */
public final class EdgesOfTermsTest {
    public static void main(String[] args) {
        calls512();
        inputs1To6();
        rows2To64();
        outputs0To3();
        rowHasTheBitOfTheInput();
        truthsAtFirst();
        rememberedAtFirst();
        alikeRows();
        decidedOfTwoRows();
        decidedWithItselfAlone();
        productCaresForRememberedInputs();
        rowsInAProduct();
        goodProducts();
        primesAtTheEdges();
        coverOfNothing();
        coverByMostRows();
        coverByFewestInputs();
        coverByLowestCode();
        answersAreWhatIsDecided();
        partsOnce();
        sharedParts();
        eachAskCounts();
        alarmsOfEachOutput();
        faults();
        hourByFewestPairs();
        hourByLowestNumber();
        bufferOf60();
        tableByInputs();
        tableOfAnyLength();
        undoIfNothingChanges();
        undoOfWhatIsCounted();
        undoButTheBuffer();
        undoOfSixStates();
        notUndoable();
        Check.end("EdgesOfTermsTest");
    }

    /** "An object is used for at most 512 calls after it has been made." */
    private static void calls512() {
        GateMaze maze = new GateMaze();
        for (int call = 1; call <= 510; call++) {
            Check.same("the call " + call, maze.ask(call % 16), 0);
        }
        Check.same("the 511th call", maze.count(6), 510);
        Check.same("the 512th call", maze.undo(), 5);
    }

    /** "There are 1 to 6 inputs, at first 4" */
    private static void inputs1To6() {
        GateMaze maze = new GateMaze();
        Check.same("at first", maze.count(0), 4);
        int previous = 4;
        for (int inputs : new int[] {1, 6, 1, 2, 3, 4, 5, 6, 6}) {
            Check.same("begin(" + inputs + ")", maze.begin(inputs), previous);
            Check.same("inputs", maze.count(0), inputs);
            Check.same("the last input", maze.ifForgotten(inputs - 1, 0), 0);
            previous = inputs;
        }
    }

    /** "so there are 2 to 64 rows, numbered from 0" */
    private static void rows2To64() {
        for (int inputs = 1; inputs <= 6; inputs++) {
            GateMaze maze = Mazes.of(inputs);
            int rows = 1 << inputs;
            Check.same("all rows of " + inputs + " inputs", maze.invert(2), rows);
            Check.same("the first row", maze.set(2, 0, 2), 1);
            Check.same("the last row", maze.set(2, rows - 1, 2), 1);
            Check.same("the others", maze.output(2, 0), rows - 2);
            Check.same("the first row, asked", maze.ask(0) & ~4, 0);
            Check.same("the last row, asked", maze.ask(rows - 1) & ~4, 0);
            Check.same("the last row, looked at", maze.at(2, rows - 1, 0), 2);
            Check.same("alike in all rows", maze.alike(0, 1), rows);
        }
    }

    /** "and 4 outputs, both numbered from 0" */
    private static void outputs0To3() {
        for (int output = 0; output < 4; output++) {
            GateMaze maze = Mazes.of(2);
            Check.same("set", maze.set(output, 3, 1), 0);
            for (int other = 0; other < 4; other++) {
                Check.same("the truth of " + other, maze.at(other, 3, 0), other == output ? 1 : 0);
                Check.same("the ones of " + other, maze.output(other, 0), other == output ? 1 : 0);
                Check.same("the product of " + other, maze.product(other, 0, 0), other == output ? 3 : -1);
                Check.same("the needs of " + other, maze.needs(other), other == output ? 3 : 0);
                Check.same("alike with " + other, maze.alike(other, output), other == output ? 4 : 3);
                Check.same("nearest of " + other, maze.nearest(other, 0), -1);
            }
            Check.same("bit " + output + " of the answers", maze.ask(3), 1 << output);
            Check.same("turned", maze.invert(output), 3);
            Check.same("joined", maze.join((output + 1) % 4, output), 3);
        }
    }

    /** "A row gives each input the value 0 or 1; its number has the bit k for the input k" */
    private static void rowHasTheBitOfTheInput() {
        for (int inputs = 1; inputs <= 6; inputs++) {
            for (int input = 0; input < inputs; input++) {
                GateMaze maze = Mazes.of(inputs);
                int rows = 1 << inputs;
                for (int row = 0; row < rows; row++) {
                    maze.set(0, row, row >> input & 1);
                }
                Check.same("needs the input " + input, maze.needs(0), 1 << input);
                Check.same("cares for the input " + input, Mazes.cover(maze, 0), (1 << input) + "/" + (1 << input));
                Check.same("all others are harmless", maze.harmless(), rows - 1 - (1 << input));
                Check.same("undecided without it", maze.ifForgotten(input, 0), rows);
                Check.same("forgotten", maze.forget(input), rows);
            }
        }
    }

    /** "Each output has a truth for each row: ... at first 0 for all." */
    private static void truthsAtFirst() {
        GateMaze maze = new GateMaze();
        for (int output = 0; output < 4; output++) {
            Check.same("truths at first", Mazes.rows(maze, output, 0), "0".repeat(16));
            Check.same("none is 1", maze.output(output, 0), 0);
            Check.same("none is 2", maze.output(output, 1), 0);
        }
    }

    /** "Each input is remembered or forgotten; at first all are remembered." */
    private static void rememberedAtFirst() {
        Check.same("of a new object", new GateMaze().count(1), 15);
        for (int inputs = 1; inputs <= 6; inputs++) {
            GateMaze maze = Mazes.of(inputs);
            Check.same("of " + inputs + " inputs", maze.count(1), (1 << inputs) - 1);
            for (int input = 0; input < inputs; input++) {
                maze.forget(input);
            }
            Check.same("all forgotten", maze.count(1), 0);
            maze.begin(inputs);
            Check.same("behind begin", maze.count(1), (1 << inputs) - 1);
        }
    }

    /** "Two rows are alike if they differ in forgotten inputs alone." */
    private static void alikeRows() {
        for (int forgotten = 1; forgotten < 64; forgotten++) {
            for (int row = 0; row < 64; row += 21) {
                GateMaze maze = Mazes.of(6);
                maze.set(1, row, 1);
                for (int input = 0; input < 6; input++) {
                    if ((forgotten >> input & 1) == 1) {
                        maze.forget(input);
                    }
                }
                for (int other = 0; other < 64; other++) {
                    boolean isAlike = ((other ^ row) & ~forgotten) == 0;
                    Check.same(row + " and " + other + " without " + forgotten, maze.at(1, other, 1), isAlike ? 3 : 0);
                }
            }
        }
    }

    /** "0 if some of them are 0 and none is 1; 1 if some are 1 and none is 0; 2 if all are 2 (free); 3 if ..." */
    private static void decidedOfTwoRows() {
        String[] truths = {"00", "01", "02", "10", "11", "12", "20", "21", "22"};
        String[] due = {"00", "33", "00", "33", "11", "11", "00", "11", "22"};
        for (int i = 0; i < truths.length; i++) {
            GateMaze maze = Mazes.of(1, truths[i]);
            maze.forget(0);
            Check.same("decided by " + truths[i], Mazes.rows(maze, 0, 1), due[i]);
        }
    }

    /** "by the truths of the rows that are alike (with itself)": with nothing forgotten by its own truth alone. */
    private static void decidedWithItselfAlone() {
        GateMaze maze = Mazes.of(3, "01221020", "22222222");
        Check.same("decided", Mazes.rows(maze, 0, 1), "01221020");
        Check.same("all free", Mazes.rows(maze, 1, 1), "22222222");
        Check.same("none is undecided", maze.count(2), 0);
    }

    /** A maze of six inputs that has all kinds of truths, some numbers picked by its seed. */
    private static GateMaze mixed(int seed) {
        GateMaze maze = Mazes.of(6);
        for (int row = 0; row < 64; row++) {
            int drawn = (row * row + 7 * row * seed + seed * seed * 5 + row / 5) % 11;
            int truth = drawn < 4 ? 1 : drawn < 7 ? 2 : 0;
            if (truth != 0) {
                maze.set(seed % 4, row, truth);
            }
        }
        for (int input = 0; input < 6; input++) {
            if ((seed >> input & 1) == 1) {
                maze.forget(input);
            }
        }
        return maze;
    }

    /** "it cares for some remembered inputs, and has a value for each of these (a bit of its values is 0 if it does not care)" */
    private static void productCaresForRememberedInputs() {
        for (int seed = 0; seed < 64; seed++) {
            GateMaze maze = mixed(seed);
            int remembered = maze.count(1);
            for (int place = 0; maze.product(seed % 4, place, 0) != -1; place++) {
                int cares = maze.product(seed % 4, place, 0);
                Check.same("cares for what is forgotten", cares & ~remembered, 0);
                Check.same("values without cares", maze.product(seed % 4, place, 1) & ~cares, 0);
            }
        }
    }

    /** "A row is in a product if it has these values." */
    private static void rowsInAProduct() {
        for (int seed = 0; seed < 64; seed++) {
            GateMaze maze = mixed(seed);
            for (int place = 0; maze.product(seed % 4, place, 0) != -1; place++) {
                int due = 64 >> Integer.bitCount(maze.product(seed % 4, place, 0));
                Check.same("rows of a product", maze.product(seed % 4, place, 2), due);
            }
        }
    }

    /** "A product is good for an output if no row in it is decided 0. (Undecided and free rows may be in it.)" */
    private static void goodProducts() {
        Check.same("a row decided 0 may not", Mazes.cover(Mazes.of(1, "10"), 0), "1/0");
        Check.same("a free row may", Mazes.cover(Mazes.of(1, "12"), 0), "0/0");
        GateMaze maze = Mazes.of(2, "1101");
        maze.forget(0);
        Check.same("undecided rows may", Mazes.cover(maze, 0), "0/0");
        Check.same("decided with them", Mazes.rows(maze, 0, 1), "1133");
        GateMaze zero = Mazes.of(2, "1100");
        zero.forget(0);
        Check.same("rows decided 0 by two may not", Mazes.cover(zero, 0), "2/0");
    }

    /** "It is a prime of the output if it is good, and not good any more if it cares for any one input less." */
    private static void primesAtTheEdges() {
        for (int inputs = 1; inputs <= 6; inputs++) {
            int rows = 1 << inputs;
            Check.same("all 0: nothing is good", Mazes.of(inputs).output(0, 5), 0);
            Check.same("all 1: what cares for nothing", Mazes.of(inputs, "1".repeat(rows)).output(0, 5), 1);
            Check.same("all free: the same", Mazes.of(inputs, "2".repeat(rows)).output(0, 5), 1);
            Check.same("one row is 1", Mazes.of(inputs, "0".repeat(rows - 1) + "1").output(0, 5), 1);
            Check.same("one row is free", Mazes.of(inputs, "2" + "0".repeat(rows - 1)).output(0, 5), 1);
            Check.same("one row is 0: one for each input", Mazes.of(inputs, "0" + "1".repeat(rows - 1)).output(0, 5), inputs);
            // The first and the last row are 0: a prime needs one input 1 and another one 0.
            int pairs = inputs * (inputs - 1);
            Check.same("two rows are 0", Mazes.of(inputs, "0" + "1".repeat(rows - 2) + "0").output(0, 5), pairs);
            GateMaze undecided = Mazes.of(inputs, "0".repeat(rows - 1) + "1");
            undecided.pass(6);
            Check.same("all undecided", undecided.output(0, 4), rows);
            Check.same("all undecided: what cares for nothing", undecided.output(0, 5), 1);
        }
    }

    /** "chosen one after the other as long as some row that is decided 1 is in none of them" */
    private static void coverOfNothing() {
        GateMaze maze = Mazes.of(2, "0000", "2222", "0220", "0111");
        Check.same("decided 0", Mazes.cover(maze, 0), "");
        Check.same("free", Mazes.cover(maze, 1), "");
        Check.same("free and decided 0", Mazes.cover(maze, 2), "");
        maze.forget(0);
        maze.forget(1);
        Check.same("undecided", Mazes.cover(maze, 3), "");
        for (int output = 0; output < 4; output++) {
            Check.same("products", maze.output(output, 6), 0);
            Check.same("answers", Mazes.rows(maze, output, 2), "0000");
        }
        Check.same("parts", maze.count(3), 0);
        // Once all rows decided 1 are held, no more primes are taken, though there are some.
        GateMaze held = Mazes.of(3, "01110000");
        Check.same("primes", held.output(0, 5), 2);
        Check.same("both are taken", Mazes.cover(held, 0), "5/1 6/2");
        held.set(0, 1, 2);
        Check.same("the free row needs none", Mazes.cover(held, 0), "6/2");
    }

    /** "the prime in which most of these rows are": of the rows that are decided 1 and in none so far. */
    private static void coverByMostRows() {
        // 4/4 has one row decided 1 and three free ones; 7/0 has one; 6/2 has two.
        GateMaze maze = Mazes.of(3, "00112221");
        Check.same("free rows do not count", Mazes.cover(maze, 0), "2/2");
        // Rows 1 and 3 are in 5/1, 2 and 3 in 6/2, 3 and 7 in 3/3; then those of the row 3 count no more.
        GateMaze ring = Mazes.of(3, "01110001");
        Check.same("rows that are held do not count", Mazes.cover(ring, 0), "3/3 5/1 6/2");
    }

    /** "of several the one that cares for the fewest inputs" */
    private static void coverByFewestInputs() {
        // The row 0 is in the primes 3/0 and 4/0; 4/0 has the higher code, and cares for one input less.
        GateMaze maze = Mazes.of(3, "12222000");
        Check.same("primes", maze.output(0, 5), 2);
        Check.same("one input ahead of two", Mazes.cover(maze, 0), "4/0");
        Check.same("two inputs ahead of three", Mazes.cover(Mazes.of(4, "1000000020002221"), 0), "12/12 7/0");
    }

    /** "of several the one with the lowest code" */
    private static void coverByLowestCode() {
        Check.same("the lowest cares", Mazes.cover(Mazes.of(2, "0112"), 0), "1/1 2/2");
        Check.same("the lowest values", Mazes.cover(Mazes.of(2, "1001"), 0), "3/0 3/3");
        // All of 1/1, 2/2, ..., 32/32 hold 32 of the 63 rows; then each next one has most of those left.
        GateMaze maze = Mazes.of(6);
        maze.invert(3);
        maze.set(3, 0, 0);
        Check.same("six of the same", Mazes.cover(maze, 3), "1/1 2/2 4/4 8/8 16/16 32/32");
        GateMaze last = Mazes.of(6);
        last.invert(3);
        last.set(3, 63, 0);
        Check.same("six of values 0", Mazes.cover(last, 3), "1/0 2/0 4/0 8/0 16/0 32/0");
    }

    /** "The answer ... is 1 if the row is in some product of its cover, otherwise 0. (So the answer is what is decided, where that is 0 or 1.)" */
    private static void answersAreWhatIsDecided() {
        for (int seed = 0; seed < 64; seed++) {
            GateMaze maze = mixed(seed);
            String decided = Mazes.rows(maze, seed % 4, 1);
            String answers = Mazes.rows(maze, seed % 4, 2);
            for (int row = 0; row < 64; row++) {
                char due = decided.charAt(row);
                if (due == '0' || due == '1') {
                    Check.same("the answer for " + row + " by the seed " + seed, answers.charAt(row), due);
                }
            }
        }
    }

    /** "The parts of the maze are the products of the covers of all outputs, each different one once." */
    private static void partsOnce() {
        Check.same("none", new GateMaze().count(3), 0);
        Check.same("one of four outputs", Mazes.of(1, "01", "01", "01", "01").count(3), 1);
        Check.same("the same cares, other values", Mazes.of(1, "01", "10").count(3), 2);
        Check.same("the same values, other cares", Mazes.of(2, "1100", "1010").count(3), 2);
        GateMaze most = Mazes.of(6);
        for (int row = 0; row < 64; row++) {
            if (Integer.bitCount(row) % 2 == 1) {
                most.set(0, row, 1);
            } else {
                most.set(1, row, 1);
            }
        }
        Check.same("one for each row", most.count(3), 64);
        most.join(2, 0);
        most.join(3, 1);
        Check.same("one for each row, by two outputs", most.count(3), 64);
        Check.same("all are shared", most.count(4), 64);
        Check.same("all care for all", most.count(5), 64 * 6);
    }

    /** "A part is shared if it is in the covers of several outputs." */
    private static void sharedParts() {
        Check.same("of one output", Mazes.of(1, "01").count(4), 0);
        Check.same("of two outputs", Mazes.of(1, "01", "01").count(4), 1);
        Check.same("of the first and the last", Mazes.of(1, "01", "00", "00", "01").count(4), 1);
        Check.same("of the last two", Mazes.of(1, "00", "00", "01", "01").count(4), 1);
        Check.same("of four outputs it is still one", Mazes.of(1, "01", "01", "01", "01").count(4), 1);
        Check.same("two of two", Mazes.of(1, "01", "10", "10", "01").count(4), 2);
        Check.same("what cares for nothing", Mazes.of(1, "11", "12").count(4), 1);
        Check.same("the same rows of no product", Mazes.of(1, "00", "22").count(4), 0);
    }

    /** "Somebody can ask for a row. Each ask counts" */
    private static void eachAskCounts() {
        GateMaze maze = Mazes.of(2, "0110");
        for (int asks = 1; asks <= 8; asks++) {
            maze.ask(2);
            Check.same("asks", maze.count(6), asks);
        }
        Check.same("alarms of what is decided", maze.count(7), 0);
        Check.same("faults of what is decided", maze.count(8), 0);
    }

    /** "for each output for which the row is undecided it is an alarm of this output" */
    private static void alarmsOfEachOutput() {
        for (int undecided = 0; undecided < 16; undecided++) {
            GateMaze maze = Mazes.of(1);
            for (int output = 0; output < 4; output++) {
                if ((undecided >> output & 1) == 1) {
                    maze.set(output, 1, 1);
                }
            }
            maze.forget(0);
            Check.same("answers", maze.ask(0), 0);
            Check.same("alarms", maze.count(7), Integer.bitCount(undecided));
            for (int output = 0; output < 4; output++) {
                Check.same("alarms of " + output, maze.output(output, 8), undecided >> output & 1);
                Check.same("no faults: the truth is 0", maze.output(output, 9), 0);
            }
            maze.ask(1);
            Check.same("alarms, twice", maze.count(7), 2 * Integer.bitCount(undecided));
            Check.same("faults: the truth is 1", maze.count(8), Integer.bitCount(undecided));
        }
    }

    /** "if its truth for this very row is 0 or 1, and its answer is the other one, it is a fault of this output" */
    private static void faults() {
        // With the input 0 forgotten the rows 0 and 1 are undecided; the cover answers 1 for the output 0, 0 for the output 1.
        GateMaze maze = Mazes.of(3, "01110000", "01000000", "22222222", "02010000");
        maze.forget(0);
        Check.same("decided of 0", Mazes.rows(maze, 0, 1), "33110000");
        Check.same("answers of 0", Mazes.rows(maze, 0, 2), "11110000");
        Check.same("answers of 1", Mazes.rows(maze, 1, 2), "00000000");
        Check.same("decided of 3", Mazes.rows(maze, 3, 1), "00330000");
        Check.same("the truth 0 is answered 1", maze.ask(0), 1);
        Check.same("the fault", maze.output(0, 9), 1);
        Check.same("the truth 0 is answered 0", maze.output(1, 9), 0);
        Check.same("the truth 1 is answered 1", maze.ask(1), 1);
        Check.same("no fault", maze.output(0, 9), 1);
        Check.same("the truth 1 is answered 0", maze.output(1, 9), 1);
        Check.same("what does not care has none", maze.output(2, 9), 0);
        Check.same("what is decided has none", maze.output(3, 9), 0);
        maze.set(0, 0, 2);
        maze.set(0, 1, 0);
        maze.set(0, 2, 1);
        maze.ask(0);
        Check.same("an answer for a truth 2 is none", maze.output(0, 9), 1);
        Check.same("faults of all", maze.count(8), 2);
    }

    /** "one remembered input is forgotten: the one by which the fewest pairs of an output and a row would be undecided then" */
    private static void hourByFewestPairs() {
        for (int least = 0; least < 3; least++) {
            // Each other input is needed by one output; this one by none.
            GateMaze maze = Mazes.of(3);
            String[] needing = {"01010101", "00110011", "00001111"};
            for (int input = 0; input < 3; input++) {
                if (input != least) {
                    Mazes.give(maze, input, needing[input]);
                }
            }
            Check.same("undecided", maze.ifForgotten(least, 0), 0);
            Check.same("pass(1)", maze.pass(1), 2);
            Check.same("the input " + least + " is gone", maze.count(1), 7 & ~(1 << least));
        }
        // Two pairs by the inputs 0 and 1, more by 2: all outputs count, not one alone.
        GateMaze maze = Mazes.of(2, "0101", "0000", "0011", "0011");
        Check.same("undecided without 0", maze.ifForgotten(0, 0), 4);
        Check.same("undecided without 1", maze.ifForgotten(1, 0), 8);
        Check.same("pass(1)", maze.pass(1), 1);
        Check.same("the input 0 is gone", maze.count(1), 2);
        GateMaze turned = Mazes.of(2, "0011", "0000", "0101", "0101");
        turned.pass(1);
        Check.same("the input 1 is gone", turned.count(1), 1);
    }

    /** "of several the lowest number" */
    private static void hourByLowestNumber() {
        GateMaze maze = Mazes.of(6);
        int[] due = {62, 60, 56, 48, 32, 0};
        for (int left : due) {
            Check.same("pass(1)", maze.pass(1), Integer.bitCount(left));
            Check.same("remembered", maze.count(1), left);
        }
        GateMaze some = Mazes.of(3, "01101001");
        some.forget(0);
        some.pass(1);
        Check.same("the lowest that is remembered", some.count(1), 4);
        GateMaze undecided = Mazes.of(2, "0110");
        undecided.pass(1);
        Check.same("of the same that is not 0", undecided.count(1), 2);
        Check.same("undecided", undecided.count(2), 4);
    }

    /** "The buffer has at most 60 characters." */
    private static void bufferOf60() {
        GateMaze maze = new GateMaze();
        for (int length = 1; length <= 60; length++) {
            Check.same("append", maze.append(33 + length), length);
        }
        Check.refused("the 61st", maze, IllegalStateException.class, () -> maze.append(48));
        Check.same("clearBuffer", maze.clearBuffer(), 60);
    }

    /** "as many characters "0", "1" or "-" as there are inputs (for the inputs 0, 1, and so on ...)" */
    private static void tableByInputs() {
        for (int inputs = 1; inputs <= 6; inputs++) {
            for (int input = 0; input < inputs; input++) {
                String open = "-".repeat(input);
                String behind = "-".repeat(inputs - 1 - input);
                GateMaze maze = Mazes.of(inputs);
                Check.same("half of the rows", Mazes.fill(maze, open + "1" + behind + "=3:1"), 1 << (inputs - 1));
                Check.same("the input " + input, maze.needs(3), 1 << input);
                Check.same("the last row", maze.at(3, (1 << inputs) - 1, 0), 1);
                Check.same("the first row", maze.at(3, 0, 0), 0);
                Mazes.fill(maze, open + "0" + behind + "=3:2");
                Check.same("the first row", maze.at(3, 0, 0), 2);
            }
            GateMaze maze = Mazes.of(inputs);
            Mazes.type(maze, "1".repeat(inputs - 1) + "=0:1");
            Check.same("one character too few", maze.firstError(), inputs - 1);
            maze.clearBuffer();
            Mazes.type(maze, "1".repeat(inputs + 1) + "=0:1");
            Check.same("one character too many", maze.firstError(), inputs);
        }
    }

    /** "a character is a syntax error if no table, of any length, begins with the characters before it and this character" */
    private static void tableOfAnyLength() {
        for (int inputs = 1; inputs <= 6; inputs++) {
            String endless = ("-".repeat(inputs) + "=0:0,").repeat(12);
            for (int length = 0; length <= 60; length++) {
                GateMaze maze = Mazes.of(inputs);
                Mazes.type(maze, endless.substring(0, length));
                Check.same("no error in " + length + " characters of " + inputs + " inputs", maze.firstError(), length);
                if (length > 0) {
                    maze.clearBuffer();
                    Mazes.type(maze, endless.substring(0, length - 1) + "x");
                    Check.same("an error in the last of " + length, maze.firstError(), length - 1);
                }
            }
        }
    }

    private static void savesThoughNothingChanges(String what, GateMaze maze, Runnable call) {
        long before = stateOf(maze);
        int saved = maze.count(10);
        call.run();
        Check.same(what + " changes nothing", stateOf(maze), before);
        Check.same(what + " is saved", maze.count(10), saved + 1);
        Check.same(what + " is undone", maze.undo(), saved);
        Check.same(what + " undone changes nothing", stateOf(maze), before);
    }

    /** A hash of all that can be seen but the saved states and the buffer. */
    private static long stateOf(GateMaze maze) {
        long hash = 0;
        for (int what = 0; what < 10; what++) {
            hash = 31 * hash + maze.count(what);
        }
        for (int output = 0; output < 4; output++) {
            hash = 31 * hash + Mazes.rows(maze, output, 0).hashCode();
            hash = 31 * hash + Mazes.numbers(maze, output).hashCode();
        }
        return hash;
    }

    /** "saves the state from before it (also if it changes nothing)" */
    private static void undoIfNothingChanges() {
        GateMaze begun = Mazes.of(2);
        savesThoughNothingChanges("begin", begun, () -> begun.begin(2));
        GateMaze set = Mazes.of(2);
        savesThoughNothingChanges("set", set, () -> set.set(3, 3, 0));
        GateMaze inverted = Mazes.of(1, "22");
        savesThoughNothingChanges("invert", inverted, () -> inverted.invert(0));
        GateMaze joined = Mazes.of(1, "01");
        savesThoughNothingChanges("join", joined, () -> joined.join(0, 1));
        GateMaze passed = Mazes.of(1, "01");
        passed.forget(0);
        savesThoughNothingChanges("pass", passed, () -> passed.pass(6));
        GateMaze filled = Mazes.of(1, "01");
        Mazes.type(filled, "1=0:1");
        savesThoughNothingChanges("fill", filled, filled::fill);
    }

    /** "all, also what is counted so far" */
    private static void undoOfWhatIsCounted() {
        GateMaze maze = Mazes.of(1, "01", "00", "12", "10");
        maze.pass(1);
        maze.ask(0);
        maze.ask(1);
        String counts = Mazes.counts(maze);
        Check.same("counted", counts, "1 0 4 1 0 0 2 4 2 1 6");
        maze.ask(1);
        Check.same("counted more", Mazes.counts(maze), "1 0 4 1 0 0 3 6 3 1 6");
        maze.undo();
        maze.undo();
        Check.same("asks and alarms and faults of before", Mazes.counts(maze), "1 0 4 1 0 0 1 2 1 1 4");
        Check.same("alarms of 0", maze.output(0, 8), 1);
        Check.same("faults of 0", maze.output(0, 9), 0);
        Check.same("faults of 3", maze.output(3, 9), 1);
        maze.undo();
        maze.undo();
        Check.same("hours of before", Mazes.counts(maze), "1 1 0 3 0 2 0 0 0 0 2");
    }

    private static GateMaze typed() {
        GateMaze maze = new GateMaze();
        Mazes.type(maze, "--11");
        return maze;
    }

    /** "all ... but the buffer and the saved states" */
    private static void undoButTheBuffer() {
        GateMaze maze = new GateMaze();
        Mazes.type(maze, "1");
        maze.set(0, 0, 1);
        Mazes.type(maze, "0-");
        maze.set(0, 1, 1);
        maze.clearBuffer();
        Mazes.type(maze, "--11");
        Check.same("undo", maze.undo(), 1);
        Check.same("undo", maze.undo(), 0);
        Check.same("the digest has the buffer of now", maze.digest(), Mazes.digest(EdgesOfTermsTest::typed, "--11"));
        Check.same("the buffer of now", maze.clearBuffer(), 4);
    }

    /** "At most 6 states are saved; the oldest one is dropped first." */
    private static void undoOfSixStates() {
        for (int calls = 0; calls <= 14; calls++) {
            GateMaze maze = new GateMaze();
            for (int row = 0; row < calls; row++) {
                maze.set(1, row, 1);
                Check.same("saved", maze.count(10), Math.min(6, row + 1));
            }
            int left = Math.min(6, calls);
            int stays = calls - left;
            while (left > 0) {
                left--;
                Check.same("undo", maze.undo(), left);
                Check.same("saved", maze.count(10), left);
                Check.same("ones", maze.output(1, 0), stays + left);
            }
            Check.refused("no more of " + calls, maze, IllegalStateException.class, maze::undo);
        }
    }

    /** "Each method that is marked "undoable" and does not throw": the others save nothing. */
    private static void notUndoable() {
        GateMaze maze = Mazes.of(2, "01");
        int saved = maze.count(10);
        maze.append(48);
        maze.firstError();
        maze.clearBuffer();
        maze.clearBuffer();
        maze.at(0, 1, 2);
        maze.output(0, 5);
        maze.product(0, 0, 0);
        maze.count(3);
        maze.ifForgotten(0, 0);
        maze.ifForgotten(0, 1);
        maze.needs(0);
        maze.harmless();
        maze.alike(0, 1);
        maze.nearest(0, 0);
        maze.decidedShare();
        maze.digest();
        Check.same("saved", maze.count(10), saved);
        Check.same("an undo saves nothing", maze.undo(), saved - 1);
        Check.same("saved", maze.count(10), saved - 1);
    }
}
