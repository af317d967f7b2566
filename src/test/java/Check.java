/** Counts and prints the calls whose answers are not the ones that are due. */
final class Check {
    /** A call whose answer or exception is looked at. */
    interface Call {
        long answer();
    }

    private static String sentence = "";
    private static int sentences = 0;
    private static int looked = 0;
    private static int wrong = 0;

    private Check() {
    }

    /** Runs the test of one sentence of the document: what is wrong is told with the sentence before it. */
    static void sentence(String text, Runnable test) {
        sentence = "<" + text + "> ";
        sentences++;
        int before = looked;
        try {
            test.run();
        } catch (RuntimeException e) {
            tellWrong("the test ended by " + e);
        }
        if (looked == before) {
            tellWrong("the test looked at no answer");
        }
        sentence = "";
    }

    static void due(String call, long got, long want) {
        looked++;
        if (got != want) {
            tellWrong(call + " answered " + got + ", due is " + want);
        }
    }

    static void due(String call, String got, String want) {
        looked++;
        if (!got.equals(want)) {
            tellWrong(call + " answered " + got + ", due is " + want);
        }
    }

    /** The call must throw this very class, not one below it: those are what the machine throws. */
    static void dueThrow(String call, Call made, Class<? extends RuntimeException> want) {
        due(call, outcome(made), "throws." + want.getSimpleName());
    }

    static String outcome(Call made) {
        try {
            return Long.toString(made.answer());
        } catch (RuntimeException e) {
            // The class of a division by 0 is one that the document names: only its text tells the machine's own.
            String whose = "/ by zero".equals(e.getMessage()) ? " of the machine" : "";
            return "throws." + e.getClass().getSimpleName() + whose;
        }
    }

    static void end() {
        System.out.println(sentences + " sentences, " + looked + " answers looked at, " + wrong + " wrong");
        if (wrong != 0) {
            System.exit(1);
        }
    }

    private static void tellWrong(String what) {
        wrong++;
        System.out.println(sentence + what);
    }
}
