import java.util.Random;

/** Long runs of calls with fixed seeds, each answered by the program and by the model; both must say the same. */
public final class ModelTest {
    private static final int RUNS = 240;
    private static final int CALLS = 512;
    private static final String[] NAMES = {
        "begin", "set", "invert", "join", "forget", "remember", "pass", "ask", "append", "clearBuffer", "firstError",
        "fill", "undo", "at", "output", "product", "count", "ifForgotten", "needs", "harmless", "alike", "nearest",
        "decidedShare", "digest",
    };
    /** How often a call comes, for each of the names. */
    private static final int[] OFTEN = {2, 40, 6, 6, 12, 14, 3, 20, 4, 1, 4, 10, 10, 10, 16, 14, 14, 8, 5, 4, 5, 6, 4, 6};

    private final Random random;
    private final GateMaze maze = new GateMaze();
    private final Model model = new Model();
    private final int run;
    private int calls = 0;

    private ModelTest(int run) {
        this.run = run;
        this.random = new Random(run * 7919L + 17L);
    }

    public static void main(String[] args) {
        for (int run = 0; run < RUNS; run++) {
            new ModelTest(run).go();
        }
        Check.end("ModelTest");
    }

    private void go() {
        both(0, random.nextInt(6) + 1, 0, 0);
        while (calls < CALLS - 8) {
            int op = drawn();
            if (NAMES[op].equals("fill") && random.nextInt(4) != 0) {
                type(tableText());
            } else if (NAMES[op].equals("append") && random.nextInt(3) == 0) {
                type(spoilt(tableText()));
                both(10, 0, 0, 0);
            }
            if (calls < CALLS - 8) {
                both(op, argument(op, 0), argument(op, 1), argument(op, 2));
            }
        }
        both(23, 0, 0, 0);
        for (int i = 0; i < 7 && calls < CALLS; i++) {
            both(12, 0, 0, 0);
        }
    }

    private int drawn() {
        int total = 0;
        for (int many : OFTEN) {
            total += many;
        }
        int left = random.nextInt(total);
        int op = 0;
        while (left >= OFTEN[op]) {
            left -= OFTEN[op];
            op++;
        }
        return op;
    }

    private void type(String text) {
        both(9, 0, 0, 0);
        for (int i = 0; i < text.length() && calls < CALLS - 10; i++) {
            both(8, text.charAt(i), 0, 0);
        }
    }

    private String tableText() {
        int inputs = model.inputs();
        int most = 61 / (inputs + 5);
        int products = 1 + random.nextInt(Math.min(most, 4));
        StringBuilder text = new StringBuilder();
        for (int p = 0; p < products; p++) {
            text.append(p == 0 ? "" : ",");
            for (int k = 0; k < inputs; k++) {
                text.append("01--".charAt(random.nextInt(4)));
            }
            text.append('=').append(random.nextInt(4)).append(':').append(random.nextInt(3));
        }
        return text.toString();
    }

    private String spoilt(String text) {
        StringBuilder spoilt = new StringBuilder(text);
        int place = random.nextInt(text.length());
        if (random.nextBoolean()) {
            spoilt.setCharAt(place, "01-=:,234/~!".charAt(random.nextInt(12)));
        } else {
            spoilt.setLength(place);
        }
        return spoilt.toString();
    }

    /** Mostly a number that the call takes, now and then one beside its range. */
    private int argument(int op, int place) {
        if (random.nextInt(60) == 0) {
            int[] odd = {-1, Integer.MIN_VALUE, Integer.MAX_VALUE, 64, 65, 127, 7, 11, 1 << 30, 32};
            return odd[random.nextInt(odd.length)];
        }
        int inputs = model.inputs();
        int rows = 1 << inputs;
        switch (NAMES[op]) {
            case "begin":
                return random.nextInt(7);
            case "set":
                return random.nextInt(place == 0 ? 4 : place == 1 ? rows : 3);
            case "forget":
            case "remember":
                return random.nextInt(inputs);
            case "pass":
                return 1 + random.nextInt(6) * random.nextInt(6) / 5;
            case "ask":
                return random.nextInt(rows);
            case "append":
                return "01-=:,23".charAt(random.nextInt(8));
            case "at":
                return random.nextInt(place == 0 ? 4 : place == 1 ? rows : 3);
            case "output":
                return random.nextInt(place == 0 ? 4 : 11);
            case "product":
                return random.nextInt(place == 0 ? 4 : place == 1 ? 5 : 4);
            case "count":
                return random.nextInt(11);
            case "ifForgotten":
                return random.nextInt(place == 0 ? inputs : 2);
            case "nearest":
                return random.nextInt(place == 0 ? 4 : rows);
            default:
                return random.nextInt(4);
        }
    }

    private void both(int op, int a, int b, int c) {
        calls++;
        String call = "run " + run + ", call " + calls + ": " + NAMES[op] + "(" + a + ", " + b + ", " + c + ")";
        Check.same(call, answer(false, op, a, b, c), answer(true, op, a, b, c));
    }

    private String answer(boolean ofModel, int op, int a, int b, int c) {
        try {
            return ofModel ? "" + modelAnswer(op, a, b, c) : "" + mazeAnswer(op, a, b, c);
        } catch (RuntimeException e) {
            return e.getClass().getName();
        }
    }

    private long mazeAnswer(int op, int a, int b, int c) {
        switch (NAMES[op]) {
            case "begin": return maze.begin(a);
            case "set": return maze.set(a, b, c);
            case "invert": return maze.invert(a);
            case "join": return maze.join(a, b);
            case "forget": return maze.forget(a);
            case "remember": return maze.remember(a);
            case "pass": return maze.pass(a);
            case "ask": return maze.ask(a);
            case "append": return maze.append(a);
            case "clearBuffer": return maze.clearBuffer();
            case "firstError": return maze.firstError();
            case "fill": return maze.fill();
            case "undo": return maze.undo();
            case "at": return maze.at(a, b, c);
            case "output": return maze.output(a, b);
            case "product": return maze.product(a, b, c);
            case "count": return maze.count(a);
            case "ifForgotten": return maze.ifForgotten(a, b);
            case "needs": return maze.needs(a);
            case "harmless": return maze.harmless();
            case "alike": return maze.alike(a, b);
            case "nearest": return maze.nearest(a, b);
            case "decidedShare": return Double.doubleToLongBits(maze.decidedShare());
            default: return maze.digest();
        }
    }

    private long modelAnswer(int op, int a, int b, int c) {
        switch (NAMES[op]) {
            case "begin": return model.begin(a);
            case "set": return model.set(a, b, c);
            case "invert": return model.invert(a);
            case "join": return model.join(a, b);
            case "forget": return model.forget(a);
            case "remember": return model.remember(a);
            case "pass": return model.pass(a);
            case "ask": return model.ask(a);
            case "append": return model.append(a);
            case "clearBuffer": return model.clearBuffer();
            case "firstError": return model.firstError();
            case "fill": return model.fill();
            case "undo": return model.undo();
            case "at": return model.at(a, b, c);
            case "output": return model.output(a, b);
            case "product": return model.product(a, b, c);
            case "count": return model.count(a);
            case "ifForgotten": return model.ifForgotten(a, b);
            case "needs": return model.needs(a);
            case "harmless": return model.harmless();
            case "alike": return model.alike(a, b);
            case "nearest": return model.nearest(a, b);
            case "decidedShare": return Double.doubleToLongBits(model.decidedShare());
            default: return model.digest();
        }
    }
}
