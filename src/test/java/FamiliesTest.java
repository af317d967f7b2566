/** Promises 16 and 17: families, family. */
public final class FamiliesTest {
    private static final int MAX = Integer.MAX_VALUE;
    private static final int MIN = Integer.MIN_VALUE;

    public static void main(String[] args) {
        families();
        family();
        Check.end();
    }

    private static void families() {
        Check.sentence("16: is most at most: just most", FamiliesTest::justMost);
        Check.sentence("16: is most at most: one more than most", FamiliesTest::oneMore);
        Check.sentence("16: most: 0", FamiliesTest::mostNought);
        Check.sentence("16: most: the greatest there is", FamiliesTest::mostGreatest);
        Check.sentence("16: the lesser one .. from each to the other: from the first", FamiliesTest::lesserFirst);
        Check.sentence("16: the lesser one .. from each to the other: from the second", FamiliesTest::lesserSecond);
        Check.sentence("16: by SHIFT 0: no other", FamiliesTest::shiftNought);
        Check.sentence("16: THE DISTANCES: of whole TUNES", FamiliesTest::wholeTunes);
        Check.sentence("16: that a row of near ones leads to", FamiliesTest::rowsOfNearOnes);
        Check.sentence("16: that a row of near ones leads to: of all 8", FamiliesTest::longestRow);
        Check.sentence("16: how many there are: of no TUNES", FamiliesTest::noTunes);
        Check.sentence("16: how many there are: of one TUNE", FamiliesTest::oneTune);
        Check.sentence("16: how many there are: 8", FamiliesTest::eightFamilies);
        Check.sentence("16: how many there are: empty TUNES", FamiliesTest::emptyTunes);
        Check.sentence("16: BAD: most is below 0", FamiliesTest::bad);
        Check.sentence("16: BAD: without TUNES, too", FamiliesTest::badWithoutTunes);
    }

    private static void family() {
        Check.sentence("17: The least TUNE of a TUNE's family", FamiliesTest::leastTune);
        Check.sentence("17: The least TUNE: itself, when it is alone", FamiliesTest::itself);
        Check.sentence("17: as of the latest families()", FamiliesTest::asOfLatest);
        Check.sentence("17: as of the latest families(): NOTES that came since", FamiliesTest::notesSince);
        Check.sentence("17: as of the latest families(): PRICES since", FamiliesTest::pricesSince);
        Check.sentence("17: that was not BAD", FamiliesTest::notBad);
        Check.sentence("17: that was not BAD: when there was no other", FamiliesTest::onlyBad);
        Check.sentence("17: NONE: there is no such TUNE", FamiliesTest::noSuchTune);
        Check.sentence("17: NONE: or it was none then", FamiliesTest::noneThen);
        Check.sentence("17: NONE: before any families()", FamiliesTest::beforeAny);
        Check.sentence("17: NONE: behind a families() of no TUNES", FamiliesTest::behindNoTunes);
    }

    /** Tunes of one note each whose distances are those of their pitches. */
    private static TuneSearch ofPitches(int... pitches) {
        TuneSearch x = new TuneSearch();
        Runs.prices(x, 1, 1000, 1000, 1000, 1000);
        for (int pitch : pitches) {
            Runs.tune(x, pitch, 1);
        }
        return x;
    }

    private static void justMost() {
        Check.due("families(5)", ofPitches(60, 65).families(5), 1);
        Check.due("families(127)", ofPitches(127, 0).families(127), 1);
    }

    private static void oneMore() {
        Check.due("families(4)", ofPitches(60, 65).families(4), 2);
        Check.due("families(126)", ofPitches(127, 0).families(126), 2);
    }

    private static void mostNought() {
        Check.due("families(0) of like ones", ofPitches(60, 60).families(0), 1);
        Check.due("families(0)", ofPitches(60, 61).families(0), 2);
    }

    private static void mostGreatest() {
        Check.due("families(MAX)", ofPitches(0, 127, 60).families(MAX), 1);
        TuneSearch x = Runs.withTune();
        Runs.tune(x);
        Runs.fill(x, 0, 24, 0, 64);
        Runs.fill(x, 1, 24, 127, 64);
        Runs.prices(x, 1000, 1000, 1000, 1000, 1000);
        Check.due("families(3047999) of the dearest", x.families(3047999), 2);
        Check.due("families(3048000) of the dearest", x.families(3048000), 1);
        Check.due("families(MAX) of the dearest", x.families(MAX), 1);
    }

    private static TuneSearch emptyAndOne(int aloneA, int aloneB) {
        TuneSearch x = Runs.withTune();
        Runs.tune(x, 60, 1);
        Runs.prices(x, 1000, 1000, aloneA, aloneB, 1000);
        return x;
    }

    private static void lesserFirst() {
        TuneSearch x = emptyAndOne(10, 3);
        Check.due("families(2)", x.families(2), 2);
        Check.due("families(3)", x.families(3), 1);
    }

    private static void lesserSecond() {
        TuneSearch x = emptyAndOne(3, 10);
        Check.due("families(2)", x.families(2), 2);
        Check.due("families(3)", x.families(3), 1);
    }

    private static void shiftNought() {
        TuneSearch x = Runs.withTune(60, 1, 62, 1);
        Runs.tune(x, 61, 1, 63, 1);
        Runs.prices(x, 1, 1000, 1000, 1000, 1000);
        Check.due("families(1)", x.families(1), 2);
        Check.due("families(2)", x.families(2), 1);
    }

    private static void wholeTunes() {
        TuneSearch x = Runs.withTune(60, 1, 62, 4);
        Runs.tune(x, 60, 1);
        Runs.prices(x, 100, 100, 1, 1, 100);
        Check.due("families(3)", x.families(3), 2);
        Check.due("families(4)", x.families(4), 1);
    }

    private static void rowsOfNearOnes() {
        TuneSearch x = ofPitches(70, 50, 64, 52, 67, 100, 54, 61);
        Check.due("families(1)", x.families(1), 8);
        Check.due("families(2)", x.families(2), 6);
        Check.due("heads", Runs.families(x), "0 1 2 1 4 5 1 7");
        // 70 67 64 61 each 3 from the next, found in another order.
        Check.due("families(3)", x.families(3), 3);
        Check.due("heads", Runs.families(x), "0 1 0 1 0 5 1 0");
        Check.due("families(7)", x.families(7), 2);
        Check.due("heads", Runs.families(x), "0 0 0 0 0 5 0 0");
        Check.due("families(29)", x.families(29), 2);
        Check.due("families(30)", x.families(30), 1);
        Check.due("heads", Runs.families(x), "0 0 0 0 0 0 0 0");
    }

    private static void longestRow() {
        TuneSearch x = ofPitches(10, 80, 30, 60, 50, 40, 70, 20);
        Check.due("families(9)", x.families(9), 8);
        Check.due("families(10)", x.families(10), 1);
        Check.due("heads", Runs.families(x), "0 0 0 0 0 0 0 0");
    }

    private static void noTunes() {
        TuneSearch x = new TuneSearch();
        Check.due("families(0)", x.families(0), 0);
        Check.due("families(MAX)", x.families(MAX), 0);
    }

    private static void oneTune() {
        TuneSearch x = ofPitches(60);
        Check.due("families(0)", x.families(0), 1);
        Check.due("families(MAX)", x.families(MAX), 1);
    }

    private static void eightFamilies() {
        TuneSearch x = ofPitches(0, 10, 20, 30, 40, 50, 60, 70);
        Check.due("families(9)", x.families(9), 8);
        Check.due("heads", Runs.families(x), "0 1 2 3 4 5 6 7");
    }

    private static void emptyTunes() {
        TuneSearch x = Runs.withTune();
        Runs.tune(x);
        Runs.tune(x, 60, 2);
        Check.due("families(0)", x.families(0), 2);
        Check.due("heads", Runs.families(x), "0 0 2");
        Check.due("families(2)", x.families(2), 1);
    }

    private static void bad() {
        TuneSearch x = ofPitches(60, 60);
        Check.due("families(-1)", x.families(-1), TuneSearch.BAD);
        Check.due("families(MIN)", x.families(MIN), TuneSearch.BAD);
    }

    private static void badWithoutTunes() {
        Check.due("families(-1)", new TuneSearch().families(-1), TuneSearch.BAD);
    }

    private static void leastTune() {
        TuneSearch x = ofPitches(90, 60, 91, 61, 92, 60);
        x.families(1);
        Check.due("heads", Runs.families(x), "0 1 0 1 0 1");
    }

    private static void itself() {
        TuneSearch x = ofPitches(90, 60, 30);
        x.families(1);
        Check.due("heads", Runs.families(x), "0 1 2");
    }

    private static void asOfLatest() {
        TuneSearch x = ofPitches(60, 65);
        x.families(5);
        Check.due("family(1)", x.family(1), 0);
        x.families(4);
        Check.due("family(1)", x.family(1), 1);
        x.families(5);
        Check.due("family(1)", x.family(1), 0);
    }

    private static void notesSince() {
        TuneSearch x = ofPitches(60, 60);
        x.families(0);
        x.note(1, 100, 64);
        Check.due("family(1) as of then", x.family(1), 0);
        x.families(0);
        Check.due("family(1) now", x.family(1), 1);
    }

    private static void pricesSince() {
        TuneSearch x = ofPitches(60, 61);
        x.families(1);
        x.price(0, 1000);
        Check.due("family(1) as of then", x.family(1), 0);
        x.families(1);
        Check.due("family(1) now", x.family(1), 1);
    }

    private static void notBad() {
        TuneSearch x = ofPitches(60, 61);
        x.families(1);
        Runs.tune(x, 60, 1);
        x.families(-1);
        Check.due("family(1)", x.family(1), 0);
        Check.due("family(2)", x.family(2), TuneSearch.NONE);
    }

    private static void onlyBad() {
        TuneSearch x = ofPitches(60, 61);
        x.families(-1);
        Check.due("family(0)", x.family(0), TuneSearch.NONE);
    }

    private static void noSuchTune() {
        TuneSearch x = ofPitches(60);
        x.families(0);
        int[] none = {-1, 1, 7, 8, MIN, MAX};
        for (int t : none) {
            Check.due("family(" + t + ")", x.family(t), TuneSearch.NONE);
        }
        Check.due("family(0)", x.family(0), 0);
        TuneSearch full = Runs.full(60, 1);
        full.families(0);
        Check.due("family(7) of 8", full.family(7), 0);
        Check.due("family(8) of 8", full.family(8), TuneSearch.NONE);
    }

    private static void noneThen() {
        TuneSearch x = ofPitches(60);
        x.families(0);
        Runs.tune(x, 60, 1);
        Check.due("family(0)", x.family(0), 0);
        Check.due("family(1)", x.family(1), TuneSearch.NONE);
        x.families(0);
        Check.due("family(1) behind another families()", x.family(1), 0);
    }

    private static void beforeAny() {
        TuneSearch x = new TuneSearch();
        Check.due("family(0) of no tunes", x.family(0), TuneSearch.NONE);
        Runs.tune(x, 60, 1);
        Check.due("family(0)", x.family(0), TuneSearch.NONE);
    }

    private static void behindNoTunes() {
        TuneSearch x = new TuneSearch();
        x.families(0);
        Runs.tune(x, 60, 1);
        Check.due("family(0)", x.family(0), TuneSearch.NONE);
    }
}
