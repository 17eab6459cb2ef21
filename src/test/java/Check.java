/** Counts what a test finds wrong, and says it. */
final class Check {
    private static int asked = 0;
    private static int wrong = 0;

    private Check() {
    }

    static void same(String what, long got, long want) {
        asked++;
        if (got != want) {
            complain(what + " answered " + got + ", due is " + want);
        }
    }

    static void same(String what, double got, double want) {
        same(what + " (its bits)", Double.doubleToLongBits(got), Double.doubleToLongBits(want));
    }

    static void same(String what, String got, String want) {
        asked++;
        if (!got.equals(want)) {
            complain(what + " is " + got + ", due is " + want);
        }
    }

    static void holds(String what, boolean true_) {
        asked++;
        if (!true_) {
            complain(what + " does not hold");
        }
    }

    /** A call that must throw this very exception and must leave all as it is, the saved states too. */
    static void refused(String what, GateMaze maze, Class<? extends RuntimeException> kind, Runnable call) {
        long before = maze.digest();
        String got = "nothing";
        try {
            call.run();
        } catch (RuntimeException e) {
            got = e.getClass().getName();
        }
        same(what + " throws", got, kind.getName());
        same(what + ": the digest behind the throw", maze.digest(), before);
    }

    private static void complain(String text) {
        wrong++;
        // A broken program may be wrong in very many places: the first ones tell enough.
        if (wrong <= 40) {
            System.out.println(text);
        }
    }

    static void end(String name) {
        System.out.println(name + ": " + asked + " answers looked at, " + wrong + " wrong");
        if (wrong != 0 || asked == 0) {
            System.exit(1);
        }
    }
}
