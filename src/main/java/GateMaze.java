/** A maze of gates that forgets inputs; ../shared/DOC.md, beside the project, says what each call promises. */
public final class GateMaze {
    /** There is nothing to return. */
    public static final int NONE = -1;

    private static final int OUTPUTS = 4;
    private static final int FIRST_INPUTS = 4;
    private static final int MOST_INPUTS = 6;
    private static final int MOST_ROWS = 64;
    /** The sets of inputs, each told as a bit mask. */
    private static final int INPUT_SETS = 64;
    private static final int MOST_HOURS = 6;
    /** Each of six inputs may be cared for with 0, with 1, or not at all. */
    private static final int MOST_PRODUCTS = 729;
    /** A product's code is this many times its cares, and its values. */
    private static final int CARES_UNIT = 64;
    private static final int MOST_SAVED = 6;
    private static final int MOST_CODES = 60;
    private static final int LOWEST_CODE = 33;
    private static final int HIGHEST_CODE = 126;

    private static final int ZERO = 0;
    private static final int ONE = 1;
    /** As a truth it says "does not care", as what is decided it says "free". */
    private static final int OPEN = 2;
    private static final int UNDECIDED = 3;

    private static final int LAST_AT = 2;
    private static final int LAST_OUTPUT_NUMBER = 10;
    private static final int LAST_PRODUCT_NUMBER = 3;
    private static final int LAST_COUNT = 10;
    private static final int LAST_IF_FORGOTTEN = 1;

    private static final long DIGEST_START = 2423L;
    private static final long DIGEST_FACTOR = 31L;

    private final State state = new State();
    private final History history = new History();
    private final TableText text = new TableText();
    private final Primes primes = new Primes();
    private final View present = new View();
    private final View imagined = new View();
    private boolean presentIsOld = true;

    public GateMaze() {
        state.restart(FIRST_INPUTS);
    }

    // ---- truths

    public int begin(int inputs) throws IllegalArgumentException {
        checkRange(inputs, 1, MOST_INPUTS);
        int previous = state.inputs;
        saveBeforeChange();
        state.restart(inputs);
        return previous;
    }

    public int set(int output, int row, int truth) throws IndexOutOfBoundsException, IllegalArgumentException {
        checkOutput(output);
        checkRow(row);
        checkRange(truth, ZERO, OPEN);
        int previous = state.truthAt(output, row);
        saveBeforeChange();
        state.give(output, 1L << row, truth);
        return previous;
    }

    public int invert(int output) throws IndexOutOfBoundsException {
        checkOutput(output);
        saveBeforeChange();
        state.turnAround(output);
        return Long.bitCount(state.onesOf(output));
    }

    public int join(int output, int other) throws IndexOutOfBoundsException, IllegalArgumentException {
        checkOutput(output);
        checkOutput(other);
        if (output == other) {
            throw new IllegalArgumentException("both outputs are the same");
        }
        saveBeforeChange();
        state.takeIn(output, other);
        return Long.bitCount(state.onesOf(output));
    }

    // ---- forgetting, asking

    public int forget(int input) throws IndexOutOfBoundsException, IllegalStateException {
        checkInput(input);
        if (!state.remembers(input)) {
            throw new IllegalStateException("the input is forgotten");
        }
        saveBeforeChange();
        state.remembered &= ~(1 << input);
        return state.undecidedPairs(state.forgotten());
    }

    public int remember(int input) throws IndexOutOfBoundsException, IllegalStateException {
        checkInput(input);
        if (state.remembers(input)) {
            throw new IllegalStateException("the input is remembered");
        }
        saveBeforeChange();
        state.remembered |= 1 << input;
        return state.undecidedPairs(state.forgotten());
    }

    public int pass(int hours) throws IllegalArgumentException {
        checkRange(hours, 1, MOST_HOURS);
        saveBeforeChange();
        for (int hour = 0; hour < hours && state.remembered != 0; hour++) {
            state.remembered &= ~(1 << state.leastMissed());
            state.hours++;
        }
        return Integer.bitCount(state.remembered);
    }

    public int ask(int row) throws IndexOutOfBoundsException {
        checkRow(row);
        View view = viewOfPresent();
        // An ask counts only: the view stays as it is.
        history.keep(state);
        state.asks++;
        int answers = 0;
        for (int output = 0; output < OUTPUTS; output++) {
            int answer = view.answerAt(output, row);
            int truth = state.truthAt(output, row);
            if (view.decidedAt(output, row) == UNDECIDED) {
                state.alarms[output]++;
            }
            if (truth != OPEN && truth != answer) {
                state.faults[output]++;
            }
            answers |= answer << output;
        }
        return answers;
    }

    // ---- texts

    public int append(int code) throws IllegalArgumentException, IllegalStateException {
        checkRange(code, LOWEST_CODE, HIGHEST_CODE);
        if (!text.add(code)) {
            throw new IllegalStateException("the buffer is full");
        }
        return text.length;
    }

    public int clearBuffer() {
        int length = text.length;
        text.length = 0;
        return length;
    }

    public int firstError() {
        return text.firstWrong(state.inputs);
    }

    public int fill() throws IllegalArgumentException {
        if (!text.isTable(state.inputs)) {
            throw new IllegalArgumentException("the buffer is not a complete table");
        }
        saveBeforeChange();
        text.giveTo(state);
        text.length = 0;
        return history.truthsChanged(state);
    }

    public int undo() throws IllegalStateException {
        if (!history.bringBack(state)) {
            throw new IllegalStateException("no state is saved");
        }
        presentIsOld = true;
        return history.size;
    }

    // ---- what there is

    public int at(int output, int row, int what) throws IndexOutOfBoundsException, IllegalArgumentException {
        checkOutput(output);
        checkRow(row);
        checkRange(what, 0, LAST_AT);
        return rowNumber(viewOfPresent(), output, row, what);
    }

    public int output(int output, int what) throws IndexOutOfBoundsException, IllegalArgumentException {
        checkOutput(output);
        checkRange(what, 0, LAST_OUTPUT_NUMBER);
        return outputNumber(viewOfPresent(), output, what);
    }

    public int product(int output, int place, int what) throws IndexOutOfBoundsException, IllegalArgumentException {
        checkOutput(output);
        checkRange(place, 0, MOST_ROWS - 1);
        checkRange(what, 0, LAST_PRODUCT_NUMBER);
        return viewOfPresent().productNumber(output, place, what);
    }

    public int count(int what) throws IllegalArgumentException {
        checkRange(what, 0, LAST_COUNT);
        return mazeNumber(viewOfPresent(), what);
    }

    // ---- what would be; nothing is changed

    public int ifForgotten(int input, int what) throws IndexOutOfBoundsException, IllegalArgumentException {
        checkInput(input);
        checkRange(what, 0, LAST_IF_FORGOTTEN);
        return forgottenNumber(input, what);
    }

    public int needs(int output) throws IndexOutOfBoundsException {
        checkOutput(output);
        return state.neededBy(output);
    }

    public int harmless() {
        return state.mostHarmless();
    }

    public int alike(int output, int other) throws IndexOutOfBoundsException {
        checkOutput(output);
        checkOutput(other);
        return viewOfPresent().sameAnswers(output, other);
    }

    public int nearest(int output, int row) throws IndexOutOfBoundsException {
        checkOutput(output);
        checkRow(row);
        return viewOfPresent().nearestUndecided(output, row);
    }

    public double decidedShare() {
        return shareDecided(viewOfPresent());
    }

    public long digest() {
        View view = viewOfPresent();
        long hash = DIGEST_START;
        for (int what = 0; what <= LAST_COUNT; what++) {
            hash = mixed(hash, mazeNumber(view, what));
        }
        for (int output = 0; output < OUTPUTS; output++) {
            hash = mixedRows(hash, view, output);
            hash = mixedOutput(hash, view, output);
        }
        for (int input = 0; input < state.inputs; input++) {
            for (int what = 0; what <= LAST_IF_FORGOTTEN; what++) {
                hash = mixed(hash, forgottenNumber(input, what));
            }
        }
        hash = mixed(hash, state.mostHarmless());
        hash = mixed(hash, bitsOfShare(shareDecided(view)));
        return text.mixedInto(hash);
    }

    // ---- what the face is made of

    private static boolean isOutput(int output) {
        return output >= 0 && output < OUTPUTS;
    }

    private static void checkOutput(int output) throws IndexOutOfBoundsException {
        if (!isOutput(output)) {
            throw new IndexOutOfBoundsException("no such output");
        }
    }

    private void checkRow(int row) throws IndexOutOfBoundsException {
        if (row < 0 || row >= state.rowCount()) {
            throw new IndexOutOfBoundsException("no such row");
        }
    }

    private void checkInput(int input) throws IndexOutOfBoundsException {
        if (input < 0 || input >= state.inputs) {
            throw new IndexOutOfBoundsException("no such input");
        }
    }

    private static void checkRange(int number, int lowest, int highest) throws IllegalArgumentException {
        if (number < lowest || number > highest) {
            throw new IllegalArgumentException("a number is out of range");
        }
    }

    private void saveBeforeChange() {
        history.keep(state);
        presentIsOld = true;
    }

    /** Covers are dear, so they are chosen anew only when somebody looks after a change. */
    private View viewOfPresent() {
        if (presentIsOld) {
            present.look(state, state.remembered, primes);
            presentIsOld = false;
        }
        return present;
    }

    private int rowNumber(View view, int output, int row, int what) {
        switch (what) {
            case 0:
                return state.truthAt(output, row);
            case 1:
                return view.decidedAt(output, row);
            default:
                return view.answerAt(output, row);
        }
    }

    private int outputNumber(View view, int output, int what) {
        switch (what) {
            case 0:
                return Long.bitCount(state.onesOf(output));
            case 1:
                return state.rowCount() - Long.bitCount(state.onesOf(output) | state.zerosOf(output));
            case 8:
                return state.alarmsOf(output);
            case 9:
                return state.faultsOf(output);
            default:
                return view.outputNumber(output, what);
        }
    }

    private int mazeNumber(View view, int what) {
        switch (what) {
            case 0:
                return state.inputs;
            case 1:
                return state.remembered;
            case 2:
                return view.undecidedPairs;
            case 3:
                return view.parts;
            case 4:
                return view.sharedParts;
            case 5:
                return view.partCares;
            case 6:
                return state.asks;
            case 7:
                return State.sum(state.alarms);
            case 8:
                return State.sum(state.faults);
            case 9:
                return state.hours;
            default:
                return history.size;
        }
    }

    private int forgottenNumber(int input, int what) {
        if (!state.remembers(input)) {
            return NONE;
        }
        int left = state.remembered & ~(1 << input);
        if (what == 0) {
            return state.undecidedPairs(Rows.inputSet(state.inputs) & ~left);
        }
        imagined.look(state, left, primes);
        return imagined.parts;
    }

    private double shareDecided(View view) {
        int told = 0;
        int decided = 0;
        for (int output = 0; output < OUTPUTS; output++) {
            long caring = state.onesOf(output) | state.zerosOf(output);
            told += Long.bitCount(caring);
            decided += Long.bitCount(caring & ~view.undecidedOf(output));
        }
        if (told == 0) {
            return 1.0;
        }
        return (double) decided / (double) told;
    }

    private static long mixed(long hash, long value) {
        return DIGEST_FACTOR * hash + value;
    }

    private long mixedRows(long before, View view, int output) {
        long hash = before;
        int rows = state.rowCount();
        for (int row = 0; row < rows; row++) {
            for (int what = 0; what <= LAST_AT; what++) {
                hash = mixed(hash, rowNumber(view, output, row, what));
            }
        }
        return hash;
    }

    private long mixedOutput(long before, View view, int output) {
        long hash = before;
        for (int what = 0; what <= LAST_OUTPUT_NUMBER; what++) {
            hash = mixed(hash, outputNumber(view, output, what));
        }
        int products = view.sizeOf(output);
        for (int place = 0; place < products; place++) {
            for (int what = 0; what <= LAST_PRODUCT_NUMBER; what++) {
                hash = mixed(hash, view.productNumber(output, place, what));
            }
        }
        hash = mixed(hash, state.neededBy(output));
        hash = mixed(hash, view.sameAnswers(output, 0));
        return mixed(hash, view.nearestUndecided(output, 0));
    }

    /** What Double.doubleToLongBits answers for 0.0 to 1.0: the rules of the language leave that call out. */
    private static long bitsOfShare(double share) {
        if (share <= 0.0) {
            return 0L;
        }
        double scaled = share;
        long exponent = 1023L;
        for (int doubled = 0; doubled < 1022 && scaled < 1.0; doubled++) {
            scaled = scaled * 2.0;
            exponent--;
        }
        // 2 to the power of 52 lifts the fraction to a whole number; none of its bits is lost.
        return (exponent << 52) + (long) ((scaled - 1.0) * 4503599627370496.0);
    }

    /** Sets of rows, told as bits of a long: the bit r stands for the row r. */
    private static final class Rows {
        /** For each input the rows that give it the value 1. */
        private static final long[] WITH_INPUT = {
            0xAAAAAAAAAAAAAAAAL, 0xCCCCCCCCCCCCCCCCL, 0xF0F0F0F0F0F0F0F0L,
            0xFF00FF00FF00FF00L, 0xFFFF0000FFFF0000L, 0xFFFFFFFF00000000L,
        };

        private Rows() {
        }

        static int inputSet(int inputs) {
            return (1 << inputs) - 1;
        }

        static long ofInputs(int inputs) {
            // A shift by 64 would be one by 0.
            return inputs >= MOST_INPUTS ? -1L : (1L << (1 << inputs)) - 1L;
        }

        /** These rows and all that differ from one of them in the forgotten inputs alone. */
        static long alikeTo(long rows, int forgotten) {
            long wide = rows;
            for (int input = 0; input < WITH_INPUT.length; input++) {
                if ((forgotten >> input & 1) != 0) {
                    long with = WITH_INPUT[input];
                    int step = 1 << input;
                    wide |= (wide & with) >>> step | (wide & ~with) << step;
                }
            }
            return wide;
        }

        static long inProduct(int inputs, int cares, int values) {
            // The values are the number of one of the product's rows.
            return alikeTo(1L << values, inputSet(inputs) & ~cares);
        }
    }

    /** The maze as it stands: all that undo brings back. */
    private static final class State {
        private int inputs;
        private int remembered;
        private int asks;
        private int hours;
        private final long[] zeros = new long[OUTPUTS];
        private final long[] ones = new long[OUTPUTS];
        private final int[] alarms = new int[OUTPUTS];
        private final int[] faults = new int[OUTPUTS];

        void restart(int newInputs) {
            inputs = newInputs;
            remembered = Rows.inputSet(newInputs);
            for (int output = 0; output < OUTPUTS; output++) {
                zeros[output] = Rows.ofInputs(newInputs);
                ones[output] = 0L;
            }
        }

        void copyFrom(State other) {
            inputs = other.inputs;
            remembered = other.remembered;
            asks = other.asks;
            hours = other.hours;
            for (int output = 0; output < OUTPUTS; output++) {
                zeros[output] = other.zeros[output];
                ones[output] = other.ones[output];
                alarms[output] = other.alarms[output];
                faults[output] = other.faults[output];
            }
        }

        static int sum(int[] numbers) {
            int total = 0;
            for (int number : numbers) {
                total += number;
            }
            return total;
        }

        int rowCount() {
            return 1 << inputs;
        }

        int forgotten() {
            return Rows.inputSet(inputs) & ~remembered;
        }

        boolean remembers(int input) {
            return (remembered >> input & 1) != 0;
        }

        long zerosOf(int output) {
            return isOutput(output) ? zeros[output] : 0L;
        }

        long onesOf(int output) {
            return isOutput(output) ? ones[output] : 0L;
        }

        int alarmsOf(int output) {
            return isOutput(output) ? alarms[output] : 0;
        }

        int faultsOf(int output) {
            return isOutput(output) ? faults[output] : 0;
        }

        int truthAt(int output, int row) {
            if ((onesOf(output) >>> row & 1L) != 0) {
                return ONE;
            }
            return (zerosOf(output) >>> row & 1L) != 0 ? ZERO : OPEN;
        }

        void give(int output, long rows, int truth) {
            if (isOutput(output)) {
                zeros[output] = truth == ZERO ? zeros[output] | rows : zeros[output] & ~rows;
                ones[output] = truth == ONE ? ones[output] | rows : ones[output] & ~rows;
            }
        }

        void turnAround(int output) {
            if (isOutput(output)) {
                long formerOnes = ones[output];
                ones[output] = zeros[output];
                zeros[output] = formerOnes;
            }
        }

        void takeIn(int output, int other) {
            if (isOutput(output)) {
                ones[output] |= onesOf(other);
                zeros[output] &= zerosOf(other);
            }
        }

        int undecidedPairs(int ifForgotten) {
            int pairs = 0;
            for (int output = 0; output < OUTPUTS; output++) {
                long someOne = Rows.alikeTo(ones[output], ifForgotten);
                pairs += Long.bitCount(someOne & Rows.alikeTo(zeros[output], ifForgotten));
            }
            return pairs;
        }

        /** The remembered input that the next hour takes; 0 if none is remembered. */
        int leastMissed() {
            int least = NONE;
            int fewest = 0;
            for (int input = 0; input < inputs; input++) {
                if (remembers(input)) {
                    int pairs = undecidedPairs(forgotten() | 1 << input);
                    if (least == NONE || pairs < fewest) {
                        least = input;
                        fewest = pairs;
                    }
                }
            }
            return least == NONE ? 0 : least;
        }

        int neededBy(int output) {
            int needed = 0;
            for (int input = 0; input < inputs; input++) {
                if ((Rows.alikeTo(onesOf(output), 1 << input) & zerosOf(output)) != 0) {
                    needed |= 1 << input;
                }
            }
            return needed;
        }

        int mostHarmless() {
            int best = 0;
            int all = Rows.inputSet(inputs);
            for (int set = 1; set <= all; set++) {
                if (Integer.bitCount(set) > Integer.bitCount(best) && undecidedPairs(set) == 0) {
                    best = set;
                }
            }
            return best;
        }

        int truthsOtherThan(State other) {
            int changed = 0;
            for (int output = 0; output < OUTPUTS; output++) {
                changed += Long.bitCount((ones[output] ^ other.ones[output]) | (zeros[output] ^ other.zeros[output]));
            }
            return changed;
        }
    }

    /** The saved states, the oldest one first; their rows are used again. */
    private static final class History {
        private final State[] saved = new State[MOST_SAVED];
        private int size;

        void keep(State state) {
            if (size >= saved.length) {
                moveOldestToEnd();
                size = saved.length - 1;
            }
            if (size >= 0 && size < saved.length) {
                if (saved[size] == null) {
                    saved[size] = new State();
                }
                saved[size].copyFrom(state);
                size++;
            }
        }

        private void moveOldestToEnd() {
            State oldest = saved[0];
            for (int place = 1; place < saved.length; place++) {
                saved[place - 1] = saved[place];
            }
            saved[saved.length - 1] = oldest;
        }

        /** The latest saved state; null if there is none. */
        private State latest() {
            return size > 0 && size <= saved.length ? saved[size - 1] : null;
        }

        boolean bringBack(State state) {
            State latest = latest();
            if (latest == null) {
                return false;
            }
            state.copyFrom(latest);
            size--;
            return true;
        }

        int truthsChanged(State state) {
            State latest = latest();
            return latest == null ? 0 : state.truthsOtherThan(latest);
        }
    }

    /** The buffer, and how it is read as a table. */
    private static final class TableText {
        private final int[] codes = new int[MOST_CODES];
        private int length;

        boolean add(int code) {
            if (length < 0 || length >= codes.length) {
                return false;
            }
            codes[length] = code;
            length++;
            return true;
        }

        int firstWrong(int inputs) {
            int place = 0;
            for (int i = 0; i < length && i < codes.length; i++) {
                if (!fits(codes[i], place, inputs)) {
                    return i;
                }
                place = codes[i] == ',' ? 0 : place + 1;
            }
            return length;
        }

        boolean isTable(int inputs) {
            int place = 0;
            for (int i = 0; i < length && i < codes.length; i++) {
                place = codes[i] == ',' ? 0 : place + 1;
            }
            return firstWrong(inputs) == length && place == inputs + 4;
        }

        /** Tells if a code may stand at this place of a product, counted from 0. */
        private static boolean fits(int code, int place, int inputs) {
            if (place < inputs) {
                return code == '0' || code == '1' || code == '-';
            }
            switch (place - inputs) {
                case 0:
                    return code == '=';
                case 1:
                    return code >= '0' && code <= '3';
                case 2:
                    return code == ':';
                case 3:
                    return code >= '0' && code <= '2';
                default:
                    return code == ',';
            }
        }

        /** Gives the state the truths of the table; the text must be one. */
        void giveTo(State state) {
            int inputs = state.inputs;
            int place = 0;
            int cares = 0;
            int values = 0;
            int output = 0;
            for (int i = 0; i < length && i < codes.length; i++) {
                int code = codes[i];
                if (place < inputs && code != '-') {
                    cares |= 1 << place;
                    values |= (code - '0') << place;
                } else if (place == inputs + 1) {
                    output = code - '0';
                } else if (place == inputs + 3) {
                    state.give(output, Rows.inProduct(inputs, cares, values), code - '0');
                    cares = 0;
                    values = 0;
                }
                place = code == ',' ? 0 : place + 1;
            }
        }

        long mixedInto(long before) {
            long hash = mixed(before, length);
            for (int i = 0; i < length && i < codes.length; i++) {
                hash = mixed(hash, codes[i]);
            }
            return hash;
        }
    }

    /** The primes of one output, in the order of their codes; its rows are used again for the next one. */
    private static final class Primes {
        /** By cares: the rows for whose values a product with these cares has a row that is decided 0. */
        private final long[] bad = new long[INPUT_SETS];
        private final int[] codes = new int[MOST_PRODUCTS];
        private final long[] rows = new long[MOST_PRODUCTS];
        private int size;

        void find(int inputs, int remembered, long decidedZero) {
            size = 0;
            findBad(remembered, decidedZero);
            for (int cares = 0; cares < INPUT_SETS; cares++) {
                if ((cares & ~remembered) == 0) {
                    addWith(inputs, cares);
                }
            }
        }

        private void findBad(int remembered, long decidedZero) {
            // Downward, so that what cares for one input more is there already.
            for (int cares = INPUT_SETS - 1; cares >= 0; cares--) {
                if ((cares & ~remembered) == 0) {
                    int unused = remembered & ~cares;
                    int lowest = unused & -unused;
                    bad[cares] = unused == 0 ? decidedZero : Rows.alikeTo(badWith(cares | lowest), lowest);
                }
            }
        }

        private long badWith(int cares) {
            return cares >= 0 && cares < INPUT_SETS ? bad[cares] : -1L;
        }

        private void addWith(int inputs, int cares) {
            long prime = ~badWith(cares);
            for (int input = 0; input < inputs; input++) {
                int withoutIt = cares & ~(1 << input);
                if (withoutIt != cares) {
                    prime &= badWith(withoutIt);
                }
            }
            for (int values = 0; values <= cares && prime != 0; values++) {
                if ((values & ~cares) == 0 && (prime >>> values & 1L) != 0 && size < MOST_PRODUCTS) {
                    codes[size] = cares * CARES_UNIT + values;
                    rows[size] = Rows.inProduct(inputs, cares, values);
                    size++;
                }
            }
        }

        /** The place of the prime that a cover takes next while these rows are left; NONE if none has any of them. */
        int bestFor(long left) {
            int best = NONE;
            int most = 0;
            int fewestCares = 0;
            for (int place = 0; place < size && place < MOST_PRODUCTS; place++) {
                int held = Long.bitCount(rows[place] & left);
                int cares = Integer.bitCount(codes[place] / CARES_UNIT);
                if (held > most || held == most && held > 0 && cares < fewestCares) {
                    best = place;
                    most = held;
                    fewestCares = cares;
                }
            }
            return best;
        }
    }

    /** What is decided and answered while some inputs are remembered. */
    private static final class View {
        private int inputs;
        private int undecidedPairs;
        private int parts;
        private int sharedParts;
        private int partCares;
        private final long[] zeros = new long[OUTPUTS];
        private final long[] ones = new long[OUTPUTS];
        private final long[] undecided = new long[OUTPUTS];
        private final long[] answers = new long[OUTPUTS];
        private final int[] primeCounts = new int[OUTPUTS];
        private final int[] sizes = new int[OUTPUTS];
        /** The codes of the covers' products, for each output as many places as there may be rows. */
        private final int[] codes = new int[OUTPUTS * MOST_ROWS];

        void look(State state, int remembered, Primes primes) {
            inputs = state.inputs;
            undecidedPairs = 0;
            int forgotten = Rows.inputSet(inputs) & ~remembered;
            for (int output = 0; output < OUTPUTS; output++) {
                long someZero = Rows.alikeTo(state.zerosOf(output), forgotten);
                long someOne = Rows.alikeTo(state.onesOf(output), forgotten);
                zeros[output] = someZero & ~someOne;
                ones[output] = someOne & ~someZero;
                undecided[output] = someZero & someOne;
                undecidedPairs += Long.bitCount(undecided[output]);
                primes.find(inputs, remembered, zeros[output]);
                primeCounts[output] = primes.size;
                coverWith(primes, output);
            }
            countParts();
        }

        private void coverWith(Primes primes, int output) {
            if (!isOutput(output)) {
                return;
            }
            long left = ones[output];
            long covered = 0L;
            int size = 0;
            for (int place = 0; place < MOST_ROWS && left != 0; place++) {
                int best = primes.bestFor(left);
                if (best < 0 || best >= MOST_PRODUCTS) {
                    break;
                }
                codes[output * MOST_ROWS + place] = primes.codes[best];
                covered |= primes.rows[best];
                left &= ~primes.rows[best];
                size++;
            }
            answers[output] = covered;
            sizes[output] = size;
        }

        private void countParts() {
            parts = 0;
            sharedParts = 0;
            partCares = 0;
            for (int output = 0; output < OUTPUTS; output++) {
                for (int place = 0; place < sizes[output] && place < MOST_ROWS; place++) {
                    int code = codes[output * MOST_ROWS + place];
                    int holders = holdersOf(code);
                    int earlier = holders & ((1 << output) - 1);
                    // A part is counted where it stands first.
                    if (earlier == 0) {
                        parts++;
                        partCares += Integer.bitCount(code / CARES_UNIT);
                        sharedParts += holders != 1 << output ? 1 : 0;
                    }
                }
            }
        }

        /** The outputs whose covers hold a product, as a bit mask. */
        private int holdersOf(int code) {
            int holders = 0;
            for (int output = 0; output < OUTPUTS; output++) {
                for (int place = 0; place < sizes[output] && place < MOST_ROWS; place++) {
                    if (codes[output * MOST_ROWS + place] == code) {
                        holders |= 1 << output;
                    }
                }
            }
            return holders;
        }

        int sizeOf(int output) {
            return isOutput(output) ? sizes[output] : 0;
        }

        long undecidedOf(int output) {
            return isOutput(output) ? undecided[output] : 0L;
        }

        private long answersOf(int output) {
            return isOutput(output) ? answers[output] : 0L;
        }

        /** The code of a cover's product; NONE if the cover has not so many. */
        private int codeAt(int output, int place) {
            if (!isOutput(output) || place < 0 || place >= MOST_ROWS || place >= sizes[output]) {
                return NONE;
            }
            return codes[output * MOST_ROWS + place];
        }

        int decidedAt(int output, int row) {
            if (!isOutput(output)) {
                return OPEN;
            }
            if ((undecided[output] >>> row & 1L) != 0) {
                return UNDECIDED;
            }
            if ((ones[output] >>> row & 1L) != 0) {
                return ONE;
            }
            return (zeros[output] >>> row & 1L) != 0 ? ZERO : OPEN;
        }

        int answerAt(int output, int row) {
            return (answersOf(output) >>> row & 1L) != 0 ? ONE : ZERO;
        }

        int outputNumber(int output, int what) {
            if (!isOutput(output)) {
                return 0;
            }
            switch (what) {
                case 2:
                    return Long.bitCount(ones[output]);
                case 3:
                    return (1 << inputs) - Long.bitCount(ones[output] | zeros[output] | undecided[output]);
                case 4:
                    return Long.bitCount(undecided[output]);
                case 5:
                    return primeCounts[output];
                case 6:
                    return sizes[output];
                case 7:
                    return caresCounted(output);
                default:
                    return caresOfAny(output);
            }
        }

        private int caresCounted(int output) {
            int counted = 0;
            int size = sizeOf(output);
            for (int place = 0; place < size; place++) {
                counted += Integer.bitCount(codeAt(output, place) / CARES_UNIT);
            }
            return counted;
        }

        private int caresOfAny(int output) {
            int cares = 0;
            int size = sizeOf(output);
            for (int place = 0; place < size; place++) {
                cares |= codeAt(output, place) / CARES_UNIT;
            }
            return cares;
        }

        int productNumber(int output, int place, int what) {
            int code = codeAt(output, place);
            if (code == NONE) {
                return NONE;
            }
            int cares = code / CARES_UNIT;
            int values = code % CARES_UNIT;
            switch (what) {
                case 0:
                    return cares;
                case 1:
                    return values;
                case 2:
                    return Long.bitCount(Rows.inProduct(inputs, cares, values));
                default:
                    return Integer.bitCount(holdersOf(code));
            }
        }

        int sameAnswers(int output, int other) {
            return (1 << inputs) - Long.bitCount(answersOf(output) ^ answersOf(other));
        }

        int nearestUndecided(int output, int row) {
            int nearestRow = NONE;
            int fewest = 0;
            for (int other = 0; other < MOST_ROWS; other++) {
                int differing = Integer.bitCount(other ^ row);
                boolean isNearer = nearestRow == NONE || differing < fewest;
                if (isNearer && (undecidedOf(output) >>> other & 1L) != 0) {
                    nearestRow = other;
                    fewest = differing;
                }
            }
            return nearestRow;
        }
    }
}
