/** Promise 13: distance. */
public final class DistanceTest {
    private static final int[] NO_TUNES = {-1, 2, 7, 8, Integer.MIN_VALUE, Integer.MAX_VALUE};

    public static void main(String[] args) {
        Check.sentence("of two whole TUNES: not of a part", DistanceTest::wholeTunes);
        Check.sentence("of two whole TUNES: of 24 NOTES each", DistanceTest::fullTunes);
        Check.sentence("of two whole TUNES: empty ones", DistanceTest::emptyTunes);
        Check.sentence("of two TUNES: of one and itself", DistanceTest::itself);
        Check.sentence("of two TUNES: a is the first row, b the second", DistanceTest::order);
        Check.sentence("by a SHIFT: 0", DistanceTest::shiftNought);
        Check.sentence("by a SHIFT: -24 and 24", DistanceTest::shiftEnds);
        Check.sentence("by PRICES as they are now", DistanceTest::pricesNow);
        Check.sentence("NONE: a", DistanceTest::noneA);
        Check.sentence("NONE: b", DistanceTest::noneB);
        Check.sentence("NONE: without TUNES", DistanceTest::noTunes);
        Check.sentence("BAD: it is below -24", DistanceTest::shiftTooSmall);
        Check.sentence("BAD: it is above 24", DistanceTest::shiftTooLarge);
        Check.sentence("a distance() changes nothing that was FOUND", DistanceTest::leavesFound);
        Check.end();
    }

    private static TuneSearch withTwo() {
        TuneSearch x = Runs.withTune(60, 1);
        Runs.tune(x, 61, 1);
        return x;
    }

    private static void wholeTunes() {
        TuneSearch x = Runs.withTune(70, 3, 60, 1, 70, 3);
        Runs.tune(x, 60, 1);
        Runs.prices(x, 100, 100, 1, 2, 100);
        Check.due("distance(0, 1, 0)", x.distance(0, 1, 0), 6);
        Check.due("distance(1, 0, 0)", x.distance(1, 0, 0), 12);
    }

    private static void fullTunes() {
        TuneSearch x = Runs.withTune();
        Runs.tune(x);
        for (int n = 0; n < 24; n++) {
            x.note(0, 2 * n, 1 + n);
            x.note(1, 2 * n + 1, 1 + n);
        }
        Runs.prices(x, 1, 1000, 1000, 1000, 1000);
        Check.due("distance(0, 1, 0)", x.distance(0, 1, 0), 24);
        Check.due("distance(0, 1, 1)", x.distance(0, 1, 1), 0);
    }

    private static void emptyTunes() {
        TuneSearch x = Runs.withTune();
        Runs.tune(x, 60, 5);
        Runs.tune(x);
        Runs.prices(x, 9, 9, 2, 3, 9);
        Check.due("distance(0, 2, 0)", x.distance(0, 2, 0), 0);
        Check.due("distance(0, 1, 0)", x.distance(0, 1, 0), 15);
        Check.due("distance(1, 0, 0)", x.distance(1, 0, 0), 10);
    }

    private static void itself() {
        TuneSearch x = Runs.withTune(60, 5, -1, 2, 61, 3);
        Runs.prices(x, 9, 1000, 1000, 1000, 1000);
        Check.due("distance(0, 0, 0)", x.distance(0, 0, 0), 0);
        Check.due("distance(0, 0, 1)", x.distance(0, 0, 1), 18);
    }

    private static void order() {
        TuneSearch x = Runs.withTune(60, 1);
        Runs.tune(x, 63, 1);
        Runs.prices(x, 1, 100, 100, 100, 100);
        Check.due("distance(0, 1, 3)", x.distance(0, 1, 3), 0);
        Check.due("distance(1, 0, 3)", x.distance(1, 0, 3), 6);
        Check.due("distance(1, 0, -3)", x.distance(1, 0, -3), 0);
    }

    private static void shiftNought() {
        TuneSearch x = withTwo();
        Check.due("distance(0, 1, 0)", x.distance(0, 1, 0), 1);
        Check.due("distance(1, 1, 0)", x.distance(1, 1, 0), 0);
    }

    private static void shiftEnds() {
        TuneSearch x = Runs.withTune(40, 1);
        Runs.tune(x, 64, 1);
        Runs.prices(x, 1, 100, 100, 100, 100);
        Check.due("distance(0, 1, 24)", x.distance(0, 1, 24), 0);
        Check.due("distance(0, 1, -24)", x.distance(0, 1, -24), 48);
        Check.due("distance(1, 0, -24)", x.distance(1, 0, -24), 0);
    }

    private static void pricesNow() {
        TuneSearch x = withTwo();
        Runs.prices(x, 7, 100, 100, 100, 100);
        Check.due("distance(0, 1, 0)", x.distance(0, 1, 0), 7);
        x.price(0, 8);
        Check.due("distance(0, 1, 0) by another price", x.distance(0, 1, 0), 8);
    }

    private static void noneA() {
        TuneSearch x = withTwo();
        for (int t : NO_TUNES) {
            Check.due("distance(" + t + ", 0, 0)", x.distance(t, 0, 0), TuneSearch.NONE);
        }
    }

    private static void noneB() {
        TuneSearch x = withTwo();
        for (int t : NO_TUNES) {
            Check.due("distance(0, " + t + ", 0)", x.distance(0, t, 0), TuneSearch.NONE);
        }
    }

    private static void noTunes() {
        TuneSearch x = new TuneSearch();
        Check.due("distance(0, 0, 0)", x.distance(0, 0, 0), TuneSearch.NONE);
        Check.due("distance(0, 0, 25)", x.distance(0, 0, 25), TuneSearch.NONE);
    }

    private static void shiftTooSmall() {
        TuneSearch x = withTwo();
        int[] bad = {-25, -26, Integer.MIN_VALUE};
        for (int shift : bad) {
            Check.due("distance(0, 1, " + shift + ")", x.distance(0, 1, shift), TuneSearch.BAD);
        }
    }

    private static void shiftTooLarge() {
        TuneSearch x = withTwo();
        int[] bad = {25, 26, Integer.MAX_VALUE};
        for (int shift : bad) {
            Check.due("distance(0, 1, " + shift + ")", x.distance(0, 1, shift), TuneSearch.BAD);
        }
    }

    private static void leavesFound() {
        TuneSearch x = withTwo();
        x.query(61, 1);
        x.near(0, 0);
        x.families(0);
        x.distance(0, 1, 5);
        Check.due("found", Runs.found(x), "1:0:1:0:0");
        Check.due("families", Runs.families(x), "0 1");
    }
}
