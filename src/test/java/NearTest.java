/** Promise 11: near. */
public final class NearTest {
    private static final int MAX = Integer.MAX_VALUE;
    private static final int MIN = Integer.MIN_VALUE;

    public static void main(String[] args) {
        endsAndPlaces();
        costs();
        shifts();
        orderAndCount();
        bad();
        Check.end();
    }

    private static void endsAndPlaces() {
        Check.sentence("the ends in TUNES (before the first NOTE)", NearTest::endBeforeFirst);
        Check.sentence("the ends in TUNES (behind each one)", NearTest::endBehindEach);
        Check.sentence("the ends in TUNES: of an empty TUNE", NearTest::endOfEmpty);
        Check.sentence("the ends in TUNES: all that there can be", NearTest::allEnds);
        Check.sentence("the ends in TUNES: there are no TUNES", NearTest::noTunes);
        Check.sentence("from some place of this TUNE to that end: the first", NearTest::fromFirst);
        Check.sentence("from some place of this TUNE to that end: one between", NearTest::fromBetween);
        Check.sentence("from some place of this TUNE to that end: the end itself", NearTest::fromEnd);
        Check.sentence("from some place of this TUNE: not of another", NearTest::notOver);
        Check.sentence("from some place: what stands before costs nothing", NearTest::before);
        Check.sentence("to that end: what stands behind costs nothing", NearTest::behind);
    }

    private static void costs() {
        Check.sentence("costs most at most: just most", NearTest::justMost);
        Check.sentence("costs most at most: one more than most", NearTest::oneMore);
        Check.sentence("most: 0", NearTest::mostNought);
        Check.sentence("most: the greatest there is", NearTest::mostGreatest);
        Check.sentence("most: where the dearest QUERY costs just that", NearTest::mostDearest);
        Check.sentence("the cheapest of these", NearTest::cheapest);
        Check.sentence("the cheapest of these: one that ends by NOTES of the TUNE alone", NearTest::cheapestEnding);
        Check.sentence("THE DISTANCE of THE QUERY and of the NOTES: in this order", NearTest::queryFirst);
        Check.sentence("THE DISTANCE: split, joined, left out, lacking", NearTest::everyStep);
        Check.sentence("THE DISTANCE of THE QUERY: an empty one", NearTest::emptyQuery);
        Check.sentence("THE DISTANCE of THE QUERY: one of 12 NOTES", NearTest::fullQuery);
    }

    private static void shifts() {
        Check.sentence("by a SHIFT from -shifts to shifts: 0", NearTest::shiftNought);
        Check.sentence("by a SHIFT from -shifts", NearTest::shiftDown);
        Check.sentence("by a SHIFT .. to shifts", NearTest::shiftUp);
        Check.sentence("by a SHIFT from -24 to 24", NearTest::shiftWidest);
        Check.sentence("by a SHIFT from -shifts to shifts: one between", NearTest::shiftBetween);
    }

    private static void orderAndCount() {
        Check.sentence("by costs", NearTest::byCosts);
        Check.sentence("by costs, then TUNES", NearTest::thenTunes);
        Check.sentence("by costs, then TUNES, then ends", NearTest::thenEnds);
        Check.sentence("how many: none", NearTest::countNone);
        Check.sentence("FOUND are: those alone, not what was FOUND before", NearTest::replaces);
    }

    private static void bad() {
        Check.sentence("BAD: most is below 0", NearTest::mostBelow);
        Check.sentence("BAD: shifts not 0 .. 24: below", NearTest::shiftsBelow);
        Check.sentence("BAD: shifts not 0 .. 24: above", NearTest::shiftsAbove);
        Check.sentence("BAD: without TUNES and QUERY, too", NearTest::badOfNothing);
        Check.sentence("BAD: what was FOUND stays", NearTest::badLeavesFound);
    }

    /** A new object with one tune and all prices of ways 10. */
    private static TuneSearch tens(int... pitchesAndLengths) {
        TuneSearch x = Runs.withTune(pitchesAndLengths);
        Runs.prices(x, 10, 10, 10, 10, 10);
        return x;
    }

    /** The cost at this end of a tune, -1 if it was not found. */
    private static int costAt(TuneSearch x, int tune, int end) {
        for (int k = 0; k < x.told(4); k++) {
            if (x.found(k, 0) == tune && x.found(k, 2) == end) {
                return x.found(k, 3);
            }
        }
        return -1;
    }

    private static void endBeforeFirst() {
        TuneSearch x = tens(60, 1);
        Runs.query(x, 90, 3);
        x.near(30, 0);
        Check.due("the cost before the first note", costAt(x, 0, 0), 30);
        x.near(29, 0);
        Check.due("it costs more than 29", costAt(x, 0, 0), -1);
    }

    private static void endBehindEach() {
        TuneSearch x = tens(60, 1, 61, 1, 62, 1);
        for (int end = 1; end <= 3; end++) {
            Runs.query(x, 59 + end, 1);
            Check.due("near(0, 0)", x.near(0, 0), 1);
            Check.due("the end", x.found(0, 2), end);
        }
    }

    private static void endOfEmpty() {
        TuneSearch x = tens();
        Runs.query(x, 60, 2);
        Check.due("near(20, 24)", x.near(20, 24), 1);
        Check.due("found", Runs.found(x), "0:0:0:20:0");
        Check.due("near(19, 24)", x.near(19, 24), 0);
    }

    private static void allEnds() {
        TuneSearch x = Runs.full(60, 1);
        Check.due("near(0, 0) with an empty query", x.near(0, 0), 200);
        Check.due("the last one's tune", x.found(199, 0), 7);
        Check.due("the last one's end", x.found(199, 2), 24);
        x.query(60, 1);
        Check.due("near(0, 0)", x.near(0, 0), 192);
        Check.due("near(MAX, 24)", x.near(MAX, 24), 200);
    }

    private static void noTunes() {
        TuneSearch x = new TuneSearch();
        Check.due("near(MAX, 24) with an empty query", x.near(MAX, 24), 0);
        x.query(60, 1);
        Check.due("near(MAX, 24)", x.near(MAX, 24), 0);
    }

    private static void fromFirst() {
        TuneSearch x = tens(60, 1, 62, 1, 64, 1);
        Runs.query(x, 60, 1, 62, 1, 64, 1);
        x.near(0, 0);
        Check.due("found", Runs.found(x), "0:0:3:0:0");
    }

    private static void fromBetween() {
        TuneSearch x = tens(50, 9, 60, 1, 60, 1, 64, 2, 30, 9);
        Runs.query(x, 60, 2, 64, 2);
        x.near(0, 0);
        Check.due("found, a note that is split", Runs.found(x), "0:1:4:0:0");
    }

    private static void fromEnd() {
        TuneSearch x = tens(50, 9, 60, 1, 60, 1, 64, 2, 30, 9);
        Runs.query(x, 60, 2, 64, 2);
        x.near(40, 0);
        Check.due("before the first note", costAt(x, 0, 0), 40);
        Check.due("behind 50, its notes alone", costAt(x, 0, 1), 40);
        Check.due("behind the first 60", costAt(x, 0, 2), 30);
        Check.due("behind both", costAt(x, 0, 3), 20);
        Check.due("behind 64", costAt(x, 0, 4), 0);
        Check.due("behind 30, its notes alone", costAt(x, 0, 5), 40);
    }

    private static void notOver() {
        TuneSearch x = tens(60, 1);
        Runs.tune(x, 62, 1);
        Runs.query(x, 60, 1, 62, 1);
        Check.due("near(0, 0)", x.near(0, 0), 0);
        Check.due("near(10, 0)", x.near(10, 0), 2);
    }

    private static void before() {
        TuneSearch x = tens();
        Runs.fill(x, 0, 23, 0, 64);
        x.note(0, 100, 1);
        Runs.query(x, 100, 1);
        x.near(0, 0);
        Check.due("found", Runs.found(x), "0:23:24:0:0");
    }

    private static void behind() {
        TuneSearch x = tens(100, 1);
        Runs.fill(x, 0, 23, 0, 64);
        Runs.query(x, 100, 1);
        x.near(0, 0);
        Check.due("found", Runs.found(x), "0:0:1:0:0");
    }

    /** The query costs 5 behind the note and 8 before it. */
    private static TuneSearch fiveAndEight() {
        TuneSearch x = Runs.withTune(60, 4);
        x.price(2, 2);
        Runs.query(x, 65, 4);
        return x;
    }

    private static void justMost() {
        TuneSearch x = fiveAndEight();
        Check.due("near(5, 0)", x.near(5, 0), 1);
        Check.due("near(8, 0)", x.near(8, 0), 2);
    }

    private static void oneMore() {
        TuneSearch x = fiveAndEight();
        Check.due("near(4, 0)", x.near(4, 0), 0);
        Check.due("near(7, 0)", x.near(7, 0), 1);
    }

    private static void mostNought() {
        TuneSearch x = fiveAndEight();
        Check.due("near(0, 0)", x.near(0, 0), 0);
        Runs.query(x, 60, 4);
        Check.due("near(0, 0) of like notes", x.near(0, 0), 1);
    }

    private static void mostGreatest() {
        TuneSearch x = fiveAndEight();
        Check.due("near(MAX, 0)", x.near(MAX, 0), 2);
        Check.due("near(MAX, 24)", x.near(MAX, 24), 2);
        Check.due("costs", Runs.found(x, 3), "0 8");
    }

    private static void mostDearest() {
        TuneSearch x = Runs.full(0, 64);
        Runs.prices(x, 1000, 1000, 1000, 1000, 1000);
        for (int n = 0; n < 12; n++) {
            x.query(127, 64);
        }
        Check.due("near(767999, 0)", x.near(767999, 0), 0);
        Check.due("near(768000, 0)", x.near(768000, 0), 200);
        Check.due("near(MAX, 24)", x.near(MAX, 24), 200);
        Check.due("the first one's cost", x.found(0, 3), 768000);
        Check.due("the last one's cost", x.found(199, 3), 768000);
    }

    private static void cheapest() {
        TuneSearch x = tens(60, 1, 61, 2);
        Runs.query(x, 61, 1);
        x.near(MAX, 1);
        // Behind 60: by -1 for nothing. Behind 61: a length that differs (10), no shift.
        Check.due("behind 60", costAt(x, 0, 1), 0);
        Check.due("behind 61", costAt(x, 0, 2), 10);
    }

    private static void cheapestEnding() {
        TuneSearch x = Runs.withTune(69, 1, 120, 1, 120, 1);
        Runs.prices(x, 1, 1, 10, 0, 1);
        Runs.query(x, 60, 1);
        x.near(9, 0);
        // With 69 it costs 9, alone 10; behind 69 the other notes cost nothing.
        Check.due("found", Runs.found(x), "0:0:1:9:0 0:0:2:9:0 0:0:3:9:0");
    }

    private static void queryFirst() {
        TuneSearch x = Runs.withTune(60, 4);
        Runs.prices(x, 1000, 1000, 3, 5, 1000);
        Runs.query(x, 90, 7);
        x.near(MAX, 0);
        // PRICE 2 is that of the query's notes.
        Check.due("costs", Runs.found(x, 3), "21 21");
        Runs.query(x, 36, 4);
        x.near(0, 24);
        // The shift is added to the query's pitch.
        Check.due("the shift", Runs.found(x, 4), "24");
        Runs.query(x, 58, 1, 60, 4, 58, 1);
        x.price(2, 1000);
        x.near(MAX, 0);
        Check.due("two notes of the query alone", x.found(0, 3), 2000);
    }

    private static void everyStep() {
        TuneSearch x = Runs.withTune(60, 1, 60, 1, 64, 4, 30, 2, 67, 2);
        Runs.prices(x, 100, 100, 3, 2, 100);
        Runs.query(x, 60, 2, 64, 3, 64, 1, 20, 3, 67, 2);
        x.near(MAX, 0);
        // 60 is split, 64 64 are joined, 20 is left out (9), 30 is lacking (4).
        Check.due("found", x.found(0, 2) + ":" + x.found(0, 3), "5:13");
    }

    private static void emptyQuery() {
        TuneSearch x = Runs.withTune(60, 1, 61, 1);
        Runs.tune(x);
        Check.due("near(0, 3)", x.near(0, 3), 4);
        Check.due("each end, from itself", Runs.found(x), "0:0:0:0:0 0:1:1:0:0 0:2:2:0:0 1:0:0:0:0");
        Check.due("near(MAX, 24)", x.near(MAX, 24), 4);
    }

    private static void fullQuery() {
        TuneSearch x = tens();
        for (int n = 0; n < 24; n++) {
            x.note(0, 2 * n, 1 + n);
        }
        for (int n = 12; n < 24; n++) {
            x.query(2 * n, 1 + n);
        }
        x.near(0, 0);
        Check.due("found", Runs.found(x), "0:12:24:0:0");
    }

    private static void shiftNought() {
        TuneSearch x = tens(60, 1);
        Runs.query(x, 61, 1);
        Check.due("near(0, 0)", x.near(0, 0), 0);
        Runs.query(x, 60, 1);
        Check.due("near(0, 0) of like pitches", x.near(0, 0), 1);
    }

    private static void shiftDown() {
        TuneSearch x = tens(60, 1);
        Runs.query(x, 65, 1);
        Check.due("near(0, 4)", x.near(0, 4), 0);
        Check.due("near(0, 5)", x.near(0, 5), 1);
        Check.due("the shift", x.found(0, 4), -5);
    }

    private static void shiftUp() {
        TuneSearch x = tens(60, 1);
        Runs.query(x, 55, 1);
        Check.due("near(0, 4)", x.near(0, 4), 0);
        Check.due("near(0, 5)", x.near(0, 5), 1);
        Check.due("the shift", x.found(0, 4), 5);
    }

    private static void shiftWidest() {
        TuneSearch x = tens(60, 1);
        int[] pitches = {36, 84};
        for (int pitch : pitches) {
            Runs.query(x, pitch, 1);
            Check.due("near(0, 23) of " + pitch, x.near(0, 23), 0);
            Check.due("near(0, 24) of " + pitch, x.near(0, 24), 1);
        }
        int[] beyond = {35, 85};
        for (int pitch : beyond) {
            Runs.query(x, pitch, 1);
            Check.due("near(0, 24) of " + pitch, x.near(0, 24), 0);
        }
    }

    private static void shiftBetween() {
        TuneSearch x = tens(60, 1, 64, 1, 67, 1);
        Runs.query(x, 63, 1, 67, 1, 70, 1);
        x.near(0, 24);
        Check.due("found", Runs.found(x), "0:0:3:0:-3");
        Runs.query(x, 50, 1, 54, 1, 57, 1);
        x.near(0, 24);
        Check.due("found", Runs.found(x), "0:0:3:0:10");
    }

    private static void byCosts() {
        TuneSearch x = tens(63, 1, 61, 1, 60, 1, 62, 1);
        x.price(0, 1);
        Runs.query(x, 60, 1);
        x.near(9, 0);
        Check.due("costs", Runs.found(x, 3), "0 1 2 3");
        Check.due("ends", Runs.found(x, 2), "3 2 4 1");
    }

    private static void thenTunes() {
        TuneSearch x = tens(61, 1, 60, 1);
        Runs.tune(x, 60, 1);
        Runs.tune(x, 61, 1);
        x.price(0, 1);
        Runs.query(x, 60, 1);
        x.near(9, 0);
        Check.due("costs", Runs.found(x, 3), "0 0 1 1");
        Check.due("tunes", Runs.found(x, 0), "0 1 0 2");
    }

    private static void thenEnds() {
        TuneSearch x = Runs.withTune(61, 1, 60, 1);
        Runs.tune(x, 60, 1, 63, 1, 60, 1);
        Runs.tune(x, 61, 1);
        Runs.query(x, 60, 1);
        x.price(2, 3);
        x.near(3, 0);
        Check.due("found", Runs.found(x), "0:1:2:0:0 1:0:1:0:0 1:2:3:0:0 0:0:1:1:0 1:0:2:1:0 2:0:1:1:0"
            + " 0:0:0:3:0 1:0:0:3:0 2:0:0:3:0");
    }

    private static void countNone() {
        TuneSearch x = tens(60, 1);
        Runs.query(x, 90, 1);
        Check.due("near(9, 0)", x.near(9, 0), 0);
        Check.due("told(4)", x.told(4), 0);
        Check.dueThrow("found(0, 0)", () -> x.found(0, 0), IndexOutOfBoundsException.class);
    }

    private static void replaces() {
        TuneSearch x = tens(60, 1, 61, 1);
        Words.dueFinds(x, ".*", 0, "0:2 1:1");
        Runs.query(x, 61, 1);
        x.near(0, 0);
        Check.due("found behind a find()", Runs.found(x), "0:1:2:0:0");
        Runs.query(x, 60, 1);
        x.near(0, 0);
        Check.due("found behind a near()", Runs.found(x), "0:0:1:0:0");
        Runs.query(x, 90, 1);
        x.near(0, 0);
        Check.due("none is found then", Runs.found(x), "");
    }

    private static void mostBelow() {
        TuneSearch x = tens(60, 1);
        Check.due("near(-1, 0)", x.near(-1, 0), TuneSearch.BAD);
        Check.due("near(-1, 24)", x.near(-1, 24), TuneSearch.BAD);
        Check.due("near(MIN, 0)", x.near(MIN, 0), TuneSearch.BAD);
    }

    private static void shiftsBelow() {
        TuneSearch x = tens(60, 1);
        Check.due("near(0, -1)", x.near(0, -1), TuneSearch.BAD);
        Check.due("near(0, -24)", x.near(0, -24), TuneSearch.BAD);
        Check.due("near(0, MIN)", x.near(0, MIN), TuneSearch.BAD);
        Check.due("near(0, 0)", x.near(0, 0), 2);
    }

    private static void shiftsAbove() {
        TuneSearch x = tens(60, 1);
        Check.due("near(0, 25)", x.near(0, 25), TuneSearch.BAD);
        Check.due("near(0, MAX)", x.near(0, MAX), TuneSearch.BAD);
        Check.due("near(-1, 25)", x.near(-1, 25), TuneSearch.BAD);
        Check.due("near(0, 24)", x.near(0, 24), 2);
    }

    private static void badOfNothing() {
        TuneSearch x = new TuneSearch();
        Check.due("near(-1, 0)", x.near(-1, 0), TuneSearch.BAD);
        Check.due("near(0, 25)", x.near(0, 25), TuneSearch.BAD);
        Check.due("near(0, -1)", x.near(0, -1), TuneSearch.BAD);
    }

    private static void badLeavesFound() {
        TuneSearch x = tens(60, 1);
        Runs.query(x, 61, 1);
        x.near(0, 1);
        x.near(-1, 0);
        x.near(0, -1);
        x.near(0, 25);
        Check.due("told(4)", x.told(4), 1);
        Check.due("found", Runs.found(x), "0:0:1:0:-1");
    }
}
