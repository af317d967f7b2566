/** Counts and prints the calls whose answers are not the ones that are due. */
final class Check {
    /** A call whose answer or exception is looked at. */
    interface Call {
        long answer();
    }

    private static int looked = 0;
    private static int wrong = 0;

    private Check() {
    }

    static void due(String call, long got, long want) {
        looked++;
        if (got != want) {
            wrong++;
            System.out.println(call + " answered " + got + ", due is " + want);
        }
    }

    static void due(String call, String got, String want) {
        looked++;
        if (!got.equals(want)) {
            wrong++;
            System.out.println(call + " answered " + got + ", due is " + want);
        }
    }

    /** The call must throw this very class, not one below it: those are what the machine throws. */
    static void dueThrow(String call, Call made, Class<? extends RuntimeException> want) {
        due(call, outcome(made), "throws." + want.getSimpleName());
    }

    static String outcome(Call made) {
        try {
            return Long.toString(made.answer());
        } catch (RuntimeException e) {
            return "throws." + e.getClass().getSimpleName();
        }
    }

    static void end() {
        System.out.println(looked + " answers looked at, " + wrong + " wrong");
        if (wrong != 0) {
            System.exit(1);
        }
    }
}
