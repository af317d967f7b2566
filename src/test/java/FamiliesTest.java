/** Promises 16 and 17: families, family. */
public final class FamiliesTest {
    public static void main(String[] args) {
        rowsOfNearOnes();
        lesserOfBothWays();
        shiftNought();
        asOfTheLatest();
        noneAndBad();
        Check.end();
    }

    private static String heads(TuneSearch x) {
        StringBuilder s = new StringBuilder();
        for (int t = 0; t < x.told(0); t++) {
            s.append(t == 0 ? "" : " ").append(x.family(t));
        }
        return s.toString();
    }

    private static void rowsOfNearOnes() {
        TuneSearch x = new TuneSearch();
        for (int k = 1; k < 5; k++) {
            x.price(k, 1000);
        }
        int[] pitches = {70, 50, 64, 52, 67, 100, 54, 61};
        for (int pitch : pitches) {
            Runs.tune(x, pitch, 1);
        }
        Check.due("families(0)", x.families(0), 8);
        Check.due("heads", heads(x), "0 1 2 3 4 5 6 7");
        Check.due("families(1)", x.families(1), 8);
        Check.due("families(2)", x.families(2), 6);
        Check.due("heads", heads(x), "0 1 2 1 4 5 1 7");
        // 70 67 64 61 each 3 from the next, found in another order.
        Check.due("families(3)", x.families(3), 3);
        Check.due("heads", heads(x), "0 1 0 1 0 5 1 0");
        Check.due("families(7)", x.families(7), 2);
        Check.due("heads", heads(x), "0 0 0 0 0 5 0 0");
        Check.due("families(29)", x.families(29), 2);
        Check.due("families(30)", x.families(30), 1);
        Check.due("heads", heads(x), "0 0 0 0 0 0 0 0");
        Check.due("families(MAX)", x.families(Integer.MAX_VALUE), 1);
    }

    private static void lesserOfBothWays() {
        TuneSearch x = new TuneSearch();
        x.price(2, 10);
        x.price(3, 3);
        Runs.tune(x);
        Runs.tune(x, 60, 1);
        Check.due("distance(0, 1, 0)", x.distance(0, 1, 0), 3);
        Check.due("distance(1, 0, 0)", x.distance(1, 0, 0), 10);
        Check.due("families(2)", x.families(2), 2);
        Check.due("families(3)", x.families(3), 1);
        x.price(2, 3);
        x.price(3, 10);
        Check.due("families(2), the other way", x.families(2), 2);
        Check.due("families(3), the other way", x.families(3), 1);
    }

    private static void shiftNought() {
        TuneSearch x = new TuneSearch();
        for (int k = 1; k < 5; k++) {
            x.price(k, 1000);
        }
        Runs.tune(x, 60, 1, 62, 1);
        Runs.tune(x, 61, 1, 63, 1);
        Check.due("families(1)", x.families(1), 2);
        Check.due("families(2)", x.families(2), 1);
    }

    private static void asOfTheLatest() {
        TuneSearch x = new TuneSearch();
        Runs.tune(x, 60, 1);
        Check.due("family(0) before families()", x.family(0), TuneSearch.NONE);
        Check.due("families(0)", x.families(0), 1);
        Runs.tune(x, 60, 1);
        Check.due("family(1), none then", x.family(1), TuneSearch.NONE);
        Check.due("family(0)", x.family(0), 0);
        Check.due("families(-1)", x.families(-1), TuneSearch.BAD);
        Check.due("family(1) behind BAD", x.family(1), TuneSearch.NONE);
        Check.due("families(0)", x.families(0), 1);
        Check.due("family(1)", x.family(1), 0);
        x.note(1, 100, 64);
        Check.due("family(1) as of then", x.family(1), 0);
        Check.due("families(-1)", x.families(-1), TuneSearch.BAD);
        Check.due("family(1) as of then", x.family(1), 0);
        Check.due("families(1)", x.families(1), 2);
        Check.due("family(1) now", x.family(1), 1);
    }

    private static void noneAndBad() {
        TuneSearch x = new TuneSearch();
        Check.due("families(0) of none", x.families(0), 0);
        Runs.tune(x);
        x.families(0);
        int[] none = {-1, 1, 8, Integer.MIN_VALUE, Integer.MAX_VALUE};
        for (int t : none) {
            Check.due("family(" + t + ")", x.family(t), TuneSearch.NONE);
        }
        Check.due("family(0)", x.family(0), 0);
        Check.due("families(MIN)", x.families(Integer.MIN_VALUE), TuneSearch.BAD);
    }
}
