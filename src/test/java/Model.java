import java.util.ArrayList;
import java.util.List;

/** The document in its slowest words: each number is worked out anew, row by row and product by product. */
final class Model {
    static final int OUTPUTS = 4;

    private int inputs = 4;
    private int[][] truths = new int[OUTPUTS][16];
    private boolean[] forgotten = new boolean[4];
    private int asks;
    private int hours;
    private int[] alarms = new int[OUTPUTS];
    private int[] faults = new int[OUTPUTS];
    private String buffer = "";
    private List<Model> saved = new ArrayList<>();

    /** What is decided for a row, by output; and the covers; both for the inputs forgotten at that time. */
    private static final class Sight {
        int[][] decided;
        int[] primes = new int[OUTPUTS];
        List<List<int[]>> covers = new ArrayList<>();

        int answer(int output, int row) {
            for (int[] product : covers.get(output)) {
                if (isIn(product, row)) {
                    return 1;
                }
            }
            return 0;
        }
    }

    private static boolean isIn(int[] product, int row) {
        return (row & product[0]) == product[1];
    }

    int inputs() {
        return inputs;
    }

    private int rows() {
        return 1 << inputs;
    }

    private boolean areAlike(int a, int b, boolean[] without) {
        for (int k = 0; k < inputs; k++) {
            if ((a >> k & 1) != (b >> k & 1) && !without[k]) {
                return false;
            }
        }
        return true;
    }

    private int[][] decided(boolean[] without) {
        int[][] decided = new int[OUTPUTS][rows()];
        for (int o = 0; o < OUTPUTS; o++) {
            for (int r = 0; r < rows(); r++) {
                boolean zero = false;
                boolean one = false;
                for (int s = 0; s < rows(); s++) {
                    if (areAlike(r, s, without)) {
                        zero |= truths[o][s] == 0;
                        one |= truths[o][s] == 1;
                    }
                }
                decided[o][r] = zero && one ? 3 : zero ? 0 : one ? 1 : 2;
            }
        }
        return decided;
    }

    private boolean isGood(int cares, int values, int[] decided) {
        for (int r = 0; r < rows(); r++) {
            if ((r & cares) == values && decided[r] == 0) {
                return false;
            }
        }
        return true;
    }

    private boolean isPrime(int cares, int values, int[] decided) {
        if (!isGood(cares, values, decided)) {
            return false;
        }
        for (int k = 0; k < inputs; k++) {
            if ((cares >> k & 1) == 1 && isGood(cares & ~(1 << k), values & ~(1 << k), decided)) {
                return false;
            }
        }
        return true;
    }

    private List<int[]> primes(int[] decided, boolean[] without) {
        List<int[]> primes = new ArrayList<>();
        for (int code = 0; code < 4096; code++) {
            int cares = code / 64;
            int values = code % 64;
            boolean isProduct = (values & ~cares) == 0;
            for (int k = 0; k < 6; k++) {
                if ((cares >> k & 1) == 1 && (k >= inputs || without[k])) {
                    isProduct = false;
                }
            }
            if (isProduct && isPrime(cares, values, decided)) {
                primes.add(new int[] {cares, values});
            }
        }
        return primes;
    }

    private List<int[]> cover(List<int[]> primes, int[] decided) {
        List<int[]> cover = new ArrayList<>();
        boolean[] left = new boolean[rows()];
        int many = 0;
        for (int r = 0; r < rows(); r++) {
            left[r] = decided[r] == 1;
            many += left[r] ? 1 : 0;
        }
        while (many > 0) {
            int[] best = null;
            int bestHeld = 0;
            for (int[] p : primes) {
                int held = 0;
                for (int r = 0; r < rows(); r++) {
                    held += left[r] && isIn(p, r) ? 1 : 0;
                }
                boolean fewer = best != null && Integer.bitCount(p[0]) < Integer.bitCount(best[0]);
                boolean sameCares = best != null && Integer.bitCount(p[0]) == Integer.bitCount(best[0]);
                boolean lower = best != null && p[0] * 64 + p[1] < best[0] * 64 + best[1];
                if (best == null || held > bestHeld || held == bestHeld && (fewer || sameCares && lower)) {
                    best = p;
                    bestHeld = held;
                }
            }
            cover.add(best);
            for (int r = 0; r < rows(); r++) {
                if (left[r] && isIn(best, r)) {
                    left[r] = false;
                    many--;
                }
            }
        }
        return cover;
    }

    private Sight sight(boolean[] without) {
        Sight sight = new Sight();
        sight.decided = decided(without);
        for (int o = 0; o < OUTPUTS; o++) {
            List<int[]> primes = primes(sight.decided[o], without);
            sight.primes[o] = primes.size();
            sight.covers.add(cover(primes, sight.decided[o]));
        }
        return sight;
    }

    private Sight sight() {
        return sight(forgotten);
    }

    private int undecided(int[][] decided) {
        int pairs = 0;
        for (int[] rows : decided) {
            for (int d : rows) {
                pairs += d == 3 ? 1 : 0;
            }
        }
        return pairs;
    }

    private List<int[]> parts(Sight sight) {
        List<int[]> parts = new ArrayList<>();
        for (List<int[]> cover : sight.covers) {
            for (int[] product : cover) {
                boolean known = false;
                for (int[] part : parts) {
                    known |= part[0] == product[0] && part[1] == product[1];
                }
                if (!known) {
                    parts.add(product);
                }
            }
        }
        return parts;
    }

    private int coversWith(Sight sight, int[] product) {
        int covers = 0;
        for (List<int[]> cover : sight.covers) {
            for (int[] other : cover) {
                if (other[0] == product[0] && other[1] == product[1]) {
                    covers++;
                }
            }
        }
        return covers;
    }

    private boolean[] alsoForgotten(int input) {
        boolean[] without = forgotten.clone();
        without[input] = true;
        return without;
    }

    private Model copy() {
        Model copy = new Model();
        copy.takeFrom(this);
        return copy;
    }

    private void takeFrom(Model other) {
        inputs = other.inputs;
        for (int o = 0; o < OUTPUTS; o++) {
            truths[o] = other.truths[o].clone();
        }
        forgotten = other.forgotten.clone();
        asks = other.asks;
        hours = other.hours;
        alarms = other.alarms.clone();
        faults = other.faults.clone();
    }

    private void save() {
        saved.add(copy());
        if (saved.size() > 6) {
            saved.remove(0);
        }
    }

    private static void there(boolean is) {
        if (!is) {
            throw new IndexOutOfBoundsException();
        }
    }

    private static void sound(boolean is) {
        if (!is) {
            throw new IllegalArgumentException();
        }
    }

    private static void allowed(boolean is) {
        if (!is) {
            throw new IllegalStateException();
        }
    }

    private static boolean isOutput(int o) {
        return o >= 0 && o <= 3;
    }

    private boolean isRow(int r) {
        return r >= 0 && r < rows();
    }

    private boolean isInput(int i) {
        return i >= 0 && i < inputs;
    }

    private int truthsThatAre(int o, int truth) {
        int many = 0;
        for (int t : truths[o]) {
            many += t == truth ? 1 : 0;
        }
        return many;
    }

    int begin(int newInputs) {
        sound(newInputs >= 1 && newInputs <= 6);
        save();
        int previous = inputs;
        inputs = newInputs;
        truths = new int[OUTPUTS][1 << newInputs];
        forgotten = new boolean[newInputs];
        return previous;
    }

    int set(int o, int r, int truth) {
        there(isOutput(o) && isRow(r));
        sound(truth >= 0 && truth <= 2);
        save();
        int previous = truths[o][r];
        truths[o][r] = truth;
        return previous;
    }

    int invert(int o) {
        there(isOutput(o));
        save();
        for (int r = 0; r < rows(); r++) {
            truths[o][r] = truths[o][r] == 0 ? 1 : truths[o][r] == 1 ? 0 : 2;
        }
        return truthsThatAre(o, 1);
    }

    int join(int o, int other) {
        there(isOutput(o) && isOutput(other));
        sound(o != other);
        save();
        for (int r = 0; r < rows(); r++) {
            int a = truths[o][r];
            int b = truths[other][r];
            truths[o][r] = a == 1 || b == 1 ? 1 : a == 2 || b == 2 ? 2 : 0;
        }
        return truthsThatAre(o, 1);
    }

    int forget(int input) {
        there(isInput(input));
        allowed(!forgotten[input]);
        save();
        forgotten[input] = true;
        return undecided(decided(forgotten));
    }

    int remember(int input) {
        there(isInput(input));
        allowed(forgotten[input]);
        save();
        forgotten[input] = false;
        return undecided(decided(forgotten));
    }

    int pass(int many) {
        sound(many >= 1 && many <= 6);
        save();
        for (int h = 0; h < many; h++) {
            int least = -1;
            int fewest = 0;
            for (int k = inputs - 1; k >= 0; k--) {
                if (!forgotten[k]) {
                    int pairs = undecided(decided(alsoForgotten(k)));
                    if (least < 0 || pairs <= fewest) {
                        least = k;
                        fewest = pairs;
                    }
                }
            }
            if (least >= 0) {
                forgotten[least] = true;
                hours++;
            }
        }
        return Integer.bitCount(rememberedMask());
    }

    private int rememberedMask() {
        int mask = 0;
        for (int k = 0; k < inputs; k++) {
            mask |= forgotten[k] ? 0 : 1 << k;
        }
        return mask;
    }

    int ask(int r) {
        there(isRow(r));
        save();
        Sight sight = sight();
        asks++;
        int answers = 0;
        for (int o = 0; o < OUTPUTS; o++) {
            int answer = sight.answer(o, r);
            answers |= answer << o;
            if (sight.decided[o][r] == 3) {
                alarms[o]++;
                faults[o] += truths[o][r] == 1 - answer ? 1 : 0;
            }
        }
        return answers;
    }

    int append(int code) {
        sound(code >= 33 && code <= 126);
        allowed(buffer.length() < 60);
        buffer += (char) code;
        return buffer.length();
    }

    int clearBuffer() {
        int length = buffer.length();
        buffer = "";
        return length;
    }

    /** The shape of a table: a character class each for the characters of one product and the comma behind it. */
    private String[] shape() {
        String[] shape = new String[inputs + 5];
        for (int k = 0; k < inputs; k++) {
            shape[k] = "01-";
        }
        shape[inputs] = "=";
        shape[inputs + 1] = "0123";
        shape[inputs + 2] = ":";
        shape[inputs + 3] = "012";
        shape[inputs + 4] = ",";
        return shape;
    }

    int firstError() {
        String[] shape = shape();
        for (int i = 0; i < buffer.length(); i++) {
            if (shape[i % shape.length].indexOf(buffer.charAt(i)) < 0) {
                return i;
            }
        }
        return buffer.length();
    }

    int fill() {
        sound(buffer.matches("([01-]{" + inputs + "}=[0-3]:[0-2],)*[01-]{" + inputs + "}=[0-3]:[0-2]"));
        save();
        Model before = copy();
        for (String product : buffer.split(",")) {
            int output = product.charAt(inputs + 1) - '0';
            for (int r = 0; r < rows(); r++) {
                boolean in = true;
                for (int k = 0; k < inputs; k++) {
                    in &= product.charAt(k) == '-' || product.charAt(k) - '0' == (r >> k & 1);
                }
                if (in) {
                    truths[output][r] = product.charAt(inputs + 3) - '0';
                }
            }
        }
        buffer = "";
        int changed = 0;
        for (int o = 0; o < OUTPUTS; o++) {
            for (int r = 0; r < rows(); r++) {
                changed += truths[o][r] != before.truths[o][r] ? 1 : 0;
            }
        }
        return changed;
    }

    int undo() {
        allowed(!saved.isEmpty());
        takeFrom(saved.remove(saved.size() - 1));
        return saved.size();
    }

    int at(int o, int r, int what) {
        there(isOutput(o) && isRow(r));
        sound(what >= 0 && what <= 2);
        return what == 0 ? truths[o][r] : what == 1 ? decided(forgotten)[o][r] : sight().answer(o, r);
    }

    private int decidedThatAre(int[] decided, int wanted) {
        int many = 0;
        for (int d : decided) {
            many += d == wanted ? 1 : 0;
        }
        return many;
    }

    int output(int o, int what) {
        there(isOutput(o));
        sound(what >= 0 && what <= 10);
        return output(sight(), o, what);
    }

    private int output(Sight sight, int o, int what) {
        int cares = 0;
        int union = 0;
        for (int[] product : sight.covers.get(o)) {
            cares += Integer.bitCount(product[0]);
            union |= product[0];
        }
        int[] numbers = {
            truthsThatAre(o, 1), truthsThatAre(o, 2), decidedThatAre(sight.decided[o], 1),
            decidedThatAre(sight.decided[o], 2), decidedThatAre(sight.decided[o], 3), sight.primes[o],
            sight.covers.get(o).size(), cares, alarms[o], faults[o], union,
        };
        return numbers[what];
    }

    int product(int o, int place, int what) {
        there(isOutput(o));
        sound(place >= 0 && place <= 63 && what >= 0 && what <= 3);
        return product(sight(), o, place, what);
    }

    private int product(Sight sight, int o, int place, int what) {
        List<int[]> cover = sight.covers.get(o);
        if (place >= cover.size()) {
            return -1;
        }
        int[] product = cover.get(place);
        int held = 0;
        for (int r = 0; r < rows(); r++) {
            held += isIn(product, r) ? 1 : 0;
        }
        return new int[] {product[0], product[1], held, coversWith(sight, product)}[what];
    }

    int count(int what) {
        sound(what >= 0 && what <= 10);
        return count(sight(), what);
    }

    private int count(Sight sight, int what) {
        int shared = 0;
        int cares = 0;
        for (int[] part : parts(sight)) {
            shared += coversWith(sight, part) > 1 ? 1 : 0;
            cares += Integer.bitCount(part[0]);
        }
        int allAlarms = alarms[0] + alarms[1] + alarms[2] + alarms[3];
        int allFaults = faults[0] + faults[1] + faults[2] + faults[3];
        int[] numbers = {
            inputs, rememberedMask(), undecided(sight.decided), parts(sight).size(), shared, cares,
            asks, allAlarms, allFaults, hours, saved.size(),
        };
        return numbers[what];
    }

    int ifForgotten(int input, int what) {
        there(isInput(input));
        sound(what == 0 || what == 1);
        if (forgotten[input]) {
            return -1;
        }
        boolean[] without = alsoForgotten(input);
        return what == 0 ? undecided(decided(without)) : parts(sight(without)).size();
    }

    int needs(int o) {
        there(isOutput(o));
        int needed = 0;
        for (int k = 0; k < inputs; k++) {
            for (int r = 0; r < rows(); r++) {
                needed |= truths[o][r] == 0 && truths[o][r ^ 1 << k] == 1 ? 1 << k : 0;
            }
        }
        return needed;
    }

    int harmless() {
        int best = -1;
        for (int set = 0; set < rows(); set++) {
            boolean[] without = new boolean[inputs];
            for (int k = 0; k < inputs; k++) {
                without[k] = (set >> k & 1) == 1;
            }
            boolean more = best < 0 || Integer.bitCount(set) > Integer.bitCount(best);
            if (more && undecided(decided(without)) == 0) {
                best = set;
            }
        }
        return best;
    }

    int alike(int o, int other) {
        there(isOutput(o) && isOutput(other));
        return alike(sight(), o, other);
    }

    private int alike(Sight sight, int o, int other) {
        int many = 0;
        for (int r = 0; r < rows(); r++) {
            many += sight.answer(o, r) == sight.answer(other, r) ? 1 : 0;
        }
        return many;
    }

    int nearest(int o, int row) {
        there(isOutput(o) && isRow(row));
        return nearest(decided(forgotten), o, row);
    }

    private int nearest(int[][] decided, int o, int row) {
        for (int apart = 0; apart <= inputs; apart++) {
            for (int r = 0; r < rows(); r++) {
                if (decided[o][r] == 3 && Integer.bitCount(r ^ row) == apart) {
                    return r;
                }
            }
        }
        return -1;
    }

    double decidedShare() {
        int[][] decided = decided(forgotten);
        int told = 0;
        int sure = 0;
        for (int o = 0; o < OUTPUTS; o++) {
            for (int r = 0; r < rows(); r++) {
                if (truths[o][r] != 2) {
                    told++;
                    sure += decided[o][r] != 3 ? 1 : 0;
                }
            }
        }
        return told == 0 ? 1.0 : (double) sure / told;
    }

    long digest() {
        Sight sight = sight();
        List<Long> values = new ArrayList<>();
        for (int what = 0; what <= 10; what++) {
            values.add((long) count(sight, what));
        }
        for (int o = 0; o < OUTPUTS; o++) {
            for (int r = 0; r < rows(); r++) {
                values.add((long) truths[o][r]);
                values.add((long) sight.decided[o][r]);
                values.add((long) sight.answer(o, r));
            }
            for (int what = 0; what <= 10; what++) {
                values.add((long) output(sight, o, what));
            }
            for (int place = 0; place < sight.covers.get(o).size(); place++) {
                for (int what = 0; what <= 3; what++) {
                    values.add((long) product(sight, o, place, what));
                }
            }
            values.add((long) needs(o));
            values.add((long) alike(sight, o, 0));
            values.add((long) nearest(sight.decided, o, 0));
        }
        for (int input = 0; input < inputs; input++) {
            values.add((long) ifForgotten(input, 0));
            values.add((long) ifForgotten(input, 1));
        }
        values.add((long) harmless());
        values.add(Double.doubleToLongBits(decidedShare()));
        values.add((long) buffer.length());
        for (char c : buffer.toCharArray()) {
            values.add((long) c);
        }
        long hash = 2423;
        for (long value : values) {
            hash = 31 * hash + value;
        }
        return hash;
    }
}
