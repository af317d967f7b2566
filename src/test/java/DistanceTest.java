/** Promise 13, and with it the ways (3): distance. */
public final class DistanceTest {
    public static void main(String[] args) {
        stepsAlone();
        stepsTogether();
        joinedAndSplit();
        rests();
        shifts();
        dearest();
        noneAndBad();
        Check.end();
    }

    /** Prices 0 to 4 that tell from a cost what it was for. */
    private static TuneSearch priced(int pitch, int length, int aloneA, int aloneB, int rest) {
        TuneSearch x = new TuneSearch();
        x.price(0, pitch);
        x.price(1, length);
        x.price(2, aloneA);
        x.price(3, aloneB);
        x.price(4, rest);
        return x;
    }

    private static void stepsAlone() {
        TuneSearch x = priced(1000, 1000, 3, 5, 1000);
        Runs.tune(x);
        Runs.tune(x, 60, 2, -1, 4);
        Check.due("no notes to none", x.distance(0, 0, 0), 0);
        Check.due("notes of A alone", x.distance(1, 0, 0), 18);
        Check.due("notes of B alone", x.distance(0, 1, 0), 30);
        Check.due("a tune to itself", x.distance(1, 1, 0), 0);
    }

    private static void stepsTogether() {
        TuneSearch x = priced(7, 100, 1000, 1000, 1000);
        Runs.tune(x, 60, 2);
        Runs.tune(x, 63, 4);
        Check.due("one with one", x.distance(0, 1, 0), 7 * 3 + 100 * 2);
        Check.due("and back", x.distance(1, 0, 0), 7 * 3 + 100 * 2);
        x.price(2, 1);
        x.price(3, 1);
        Check.due("both alone are cheaper", x.distance(0, 1, 0), 2 + 4);
    }

    private static void joinedAndSplit() {
        TuneSearch x = priced(1, 10, 1000, 1000, 1000);
        Runs.tune(x, 60, 8);
        Runs.tune(x, 60, 2, 60, 2, 61, 2, 62, 2);
        Runs.tune(x, 60, 2, 60, 2, 60, 2, 60, 1, 60, 1);
        Check.due("one of A with four of B", x.distance(0, 1, 0), 3);
        Check.due("four of A with one of B", x.distance(1, 0, 0), 3);
        // Five can't be joined: one of them is taken alone.
        Check.due("one of A with five of B", x.distance(0, 2, 0), 1000 + 10);
        Check.due("five of A with one of B", x.distance(2, 0, 0), 1000 + 10);
        Runs.tune(x, 60, 2, 60, 2);
        Runs.tune(x, 60, 1, 60, 3);
        // Two with two is no step: 2 with 1, 2 with 3.
        Check.due("two with two", x.distance(3, 4, 0), 20);
        Runs.tune(x, 50, 3, 60, 6);
        Runs.tune(x, 50, 1, 50, 2, 60, 2, 60, 4);
        Check.due("split twice", x.distance(5, 6, 0), 0);
        Check.due("joined twice", x.distance(6, 5, 0), 0);
    }

    private static void rests() {
        TuneSearch x = priced(1, 10, 1000, 1000, 7);
        Runs.tune(x, -1, 4);
        Runs.tune(x, -1, 3);
        Runs.tune(x, 60, 4);
        Runs.tune(x, -1, 2, 60, 1, -1, 1);
        Check.due("rest with rest", x.distance(0, 1, 5), 10);
        Check.due("rest with note", x.distance(0, 2, 5), 7);
        Check.due("note with rest", x.distance(2, 0, 5), 7);
        Check.due("rest with rest, note, rest", x.distance(0, 3, 0), 7);
        Check.due("note with rest, note, rest", x.distance(2, 3, 0), 14);
        Check.due("rest, note, rest with note", x.distance(3, 2, 2), 16);
        Check.due("rest, note, rest with rest", x.distance(3, 0, 2), 7);
    }

    private static void shifts() {
        TuneSearch x = priced(1, 10, 1000, 1000, 1000);
        Runs.tune(x, 40, 1, 50, 1);
        Runs.tune(x, 64, 1, 74, 1);
        Check.due("24 more in A", x.distance(0, 1, 24), 0);
        Check.due("24 less in A", x.distance(1, 0, -24), 0);
        Check.due("24 less, not more", x.distance(0, 1, -24), 96);
        Check.due("shift 3", x.distance(0, 1, 3), 42);
    }

    private static void dearest() {
        TuneSearch x = priced(1000, 1000, 1000, 1000, 1000);
        x.tune();
        x.tune();
        for (int n = 0; n < 24; n++) {
            x.note(0, 0, 64);
            x.note(1, 127, 64);
        }
        // Together a pair costs 1000 * 127 at shift 0, alone 2 * 64 * 1000: just dearer.
        Check.due("24 pairs", x.distance(0, 1, 0), 24 * 127000);
        Check.due("24 pairs, shift 24", x.distance(0, 1, 24), 24 * 103000);
        Check.due("all alone", x.distance(0, 1, -24), 2 * 24 * 64000);
        for (int k = 0; k < 5; k++) {
            x.price(k, 0);
        }
        Check.due("all for nothing", x.distance(0, 1, 24), 0);
    }

    private static void noneAndBad() {
        TuneSearch x = new TuneSearch();
        Check.due("no tune at all", x.distance(0, 0, 0), TuneSearch.NONE);
        Runs.tune(x, 60, 1);
        int[] none = {-1, 1, 8, Integer.MIN_VALUE, Integer.MAX_VALUE};
        for (int t : none) {
            Check.due("distance(" + t + ", 0, 0)", x.distance(t, 0, 0), TuneSearch.NONE);
            Check.due("distance(0, " + t + ", 0)", x.distance(0, t, 0), TuneSearch.NONE);
            Check.due("distance(0, " + t + ", 25)", x.distance(0, t, 25), TuneSearch.NONE);
        }
        int[] bad = {-25, 25, Integer.MIN_VALUE, Integer.MAX_VALUE};
        for (int s : bad) {
            Check.due("distance(0, 0, " + s + ")", x.distance(0, 0, s), TuneSearch.BAD);
        }
        Check.due("distance(0, 0, -24)", x.distance(0, 0, -24), 2);
        Check.due("distance(0, 0, 24)", x.distance(0, 0, 24), 2);
    }
}
