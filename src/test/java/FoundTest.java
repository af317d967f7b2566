/** Promise 12: found. */
public final class FoundTest {
    private static final int MAX = Integer.MAX_VALUE;
    private static final int MIN = Integer.MIN_VALUE;

    public static void main(String[] args) {
        behindFind();
        behindNear();
        likeCosts();
        latest();
        outside();
        Check.end();
    }

    private static void behindFind() {
        Check.sentence("behind a find(): 0 its TUNE", FoundTest::findTune);
        Check.sentence("1 behind a find() the place of its first SIGN", FoundTest::findPlace);
        Check.sentence("1 .. in the row of SIGNS: not of NOTES", FoundTest::findPlaceOfSigns);
        Check.sentence("2 how many SIGNS the longest such row has", FoundTest::findLongest);
        Check.sentence("2 how many SIGNS: the least, 1", FoundTest::findLongestOne);
        Check.sentence("2 how many SIGNS: the most, 24", FoundTest::findLongestAll);
        Check.sentence("(behind a find() 0 for 3)", FoundTest::findCost);
        Check.sentence("(behind a find() 0 for 4)", FoundTest::findShift);
        Check.sentence("(behind a find() 0 for 3 and 4): behind a near() before", FoundTest::findBehindNear);
    }

    private static void behindNear() {
        Check.sentence("behind a near(): 0 its TUNE", FoundTest::nearTune);
        Check.sentence("1 behind a near() how many NOTES stand before the place", FoundTest::nearPlace);
        Check.sentence("1 .. from which it is cheapest", FoundTest::nearCheapestPlace);
        Check.sentence("2 how many NOTES stand before the end", FoundTest::nearEnd);
        Check.sentence("1, 2 how many NOTES: none, 24", FoundTest::nearEndsOfAll);
        Check.sentence("3 the cost", FoundTest::nearCost);
        Check.sentence("3 the cost: 0, and the dearest", FoundTest::nearCostEnds);
        Check.sentence("4 the SHIFT", FoundTest::nearShift);
        Check.sentence("4 the SHIFT: -24, 24", FoundTest::nearShiftEnds);
    }

    private static void likeCosts() {
        Check.sentence("Of like costs at one end: the SHIFT nearest to 0", FoundTest::nearestShift);
        Check.sentence("the SHIFT nearest to 0: when each costs the same", FoundTest::nearestOfAll);
        Check.sentence("of two the one below 0", FoundTest::shiftBelow);
        Check.sentence("of two the one below 0: not one that is farther", FoundTest::shiftBelowNotFarther);
        Check.sentence("of these the last place", FoundTest::lastPlace);
        Check.sentence("of these the last place: the end itself", FoundTest::lastPlaceIsEnd);
        Check.sentence("the SHIFT first, of these the last place", FoundTest::shiftBeforePlace);
        Check.sentence("Of like costs: a cheaper one by another SHIFT wins", FoundTest::cheaperWins);
        Check.sentence("Of like costs at one end: each end for itself", FoundTest::eachEnd);
    }

    private static void latest() {
        Check.sentence("Of the k-th: each of them", FoundTest::eachOfThem);
        Check.sentence("by the latest find() or near(): a find()", FoundTest::latestFind);
        Check.sentence("by the latest find() or near(): a near()", FoundTest::latestNear);
        Check.sentence("that was not BAD: a BAD find()", FoundTest::badFind);
        Check.sentence("that was not BAD: a BAD near()", FoundTest::badNear);
        Check.sentence("that was FOUND: as of then", FoundTest::asOfThen);
    }

    private static void outside() {
        Check.sentence("IndexOutOfBoundsException: there is none such: k below 0", FoundTest::kBelow);
        Check.sentence("IndexOutOfBoundsException: there is none such: k beyond", FoundTest::kBeyond);
        Check.sentence("there is none such: nothing was FOUND", FoundTest::nothingFound);
        Check.sentence("there is none such: of a new object", FoundTest::newObject);
        Check.sentence("there is none such: beyond 200", FoundTest::kBeyondAll);
        Check.sentence("or another what: below 0", FoundTest::whatBelow);
        Check.sentence("or another what: above 4", FoundTest::whatAbove);
        Check.sentence("a found() that throws changes nothing", FoundTest::throwingChangesNothing);
    }

    private static TuneSearch withWord(String text, int... pitchesAndLengths) {
        TuneSearch x = Runs.withTune(pitchesAndLengths);
        Runs.word(x, text);
        return x;
    }

    private static void findTune() {
        TuneSearch x = withWord("60", 61, 1);
        Runs.tune(x, 60, 1);
        Runs.tune(x, 61, 1, 60, 1);
        x.find(0);
        Check.due("found(0, 0)", x.found(0, 0), 1);
        Check.due("found(1, 0)", x.found(1, 0), 2);
    }

    private static void findPlace() {
        TuneSearch x = withWord("60 61", 60, 1, 62, 1, 60, 1, 61, 1);
        x.find(0);
        Check.due("found(0, 1)", x.found(0, 1), 2);
        Runs.word(x, "60");
        x.find(0);
        Check.due("found(0, 1)", x.found(0, 1), 0);
    }

    private static void findPlaceOfSigns() {
        TuneSearch x = withWord("2", 60, 1, 62, 1, 63, 1, 65, 1);
        x.find(1);
        // The interval to the second note is the first sign.
        Check.due("places", Runs.found(x, 1), "0 2");
    }

    private static void findLongest() {
        TuneSearch x = withWord("60|60 62|60 62 62 -1|60 62 62 r", 60, 1, 62, 1, 62, 1, -1, 1, 60, 1);
        x.find(0);
        Check.due("found(0, 2)", x.found(0, 2), 4);
        Runs.word(x, "60 62 62 r 60 60|60 62");
        x.find(0);
        Check.due("found(0, 2), when a longer one breaks off", x.found(0, 2), 2);
    }

    private static void findLongestOne() {
        TuneSearch x = withWord("60|60 61", 60, 1, 62, 1);
        x.find(0);
        Check.due("found(0, 2)", x.found(0, 2), 1);
    }

    private static void findLongestAll() {
        TuneSearch x = withWord(".+");
        Runs.fill(x, 0, 24, 60, 1);
        x.find(0);
        Check.due("found(0, 2)", x.found(0, 2), 24);
        Check.due("found(23, 2)", x.found(23, 2), 1);
    }

    private static void findCost() {
        TuneSearch x = withWord(".", 60, 1, 61, 1);
        x.find(0);
        Check.due("costs", Runs.found(x, 3), "0 0");
    }

    private static void findShift() {
        TuneSearch x = withWord(".", 60, 1, 61, 1);
        x.find(0);
        Check.due("shifts", Runs.found(x, 4), "0 0");
    }

    private static void findBehindNear() {
        TuneSearch x = withWord(".", 60, 4, 59, 4);
        Runs.prices(x, 10, 10, 10, 10, 10);
        Runs.query(x, 70, 5);
        x.near(40, 9);
        Check.due("found behind the near()", Runs.found(x), "0:0:1:20:-9 0:1:2:30:-9");
        x.find(0);
        Check.due("found", Runs.found(x), "0:0:1:0:0 0:1:1:0:0");
    }

    /** All prices of ways 100: the query must fit. */
    private static TuneSearch hundreds(int... pitchesAndLengths) {
        TuneSearch x = Runs.withTune(pitchesAndLengths);
        Runs.prices(x, 100, 100, 100, 100, 100);
        return x;
    }

    private static void nearTune() {
        TuneSearch x = hundreds(61, 1);
        Runs.tune(x, 60, 1);
        Runs.query(x, 60, 1);
        x.near(0, 0);
        Check.due("found(0, 0)", x.found(0, 0), 1);
    }

    private static void nearPlace() {
        TuneSearch x = hundreds(70, 1, -1, 2, 60, 1, 62, 1);
        Runs.query(x, 60, 1, 62, 1);
        x.near(0, 0);
        Check.due("found(0, 1), a rest counts", x.found(0, 1), 2);
    }

    private static void nearCheapestPlace() {
        TuneSearch x = hundreds(60, 1, 60, 1, 60, 1);
        Runs.query(x, 60, 2);
        x.near(0, 0);
        Check.due("places", Runs.found(x, 1), "0 1");
        Runs.query(x, 60, 3);
        x.near(0, 0);
        Check.due("places", Runs.found(x, 1), "0");
    }

    private static void nearEnd() {
        TuneSearch x = hundreds(70, 1, -1, 2, 60, 1, 62, 1, 60, 9);
        Runs.query(x, 60, 1, 62, 1);
        x.near(0, 0);
        Check.due("found(0, 2)", x.found(0, 2), 4);
    }

    private static void nearEndsOfAll() {
        TuneSearch x = hundreds();
        Runs.fill(x, 0, 24, 60, 1);
        x.near(0, 0);
        Check.due("found(0, 1)", x.found(0, 1), 0);
        Check.due("found(0, 2)", x.found(0, 2), 0);
        Check.due("found(24, 1)", x.found(24, 1), 24);
        Check.due("found(24, 2)", x.found(24, 2), 24);
    }

    private static void nearCost() {
        TuneSearch x = hundreds(60, 1);
        x.price(0, 7);
        Runs.query(x, 63, 1);
        x.near(99, 0);
        Check.due("found(0, 3)", x.found(0, 3), 21);
    }

    private static void nearCostEnds() {
        TuneSearch x = hundreds(0, 64);
        Runs.prices(x, 1000, 1000, 1000, 1000, 1000);
        Runs.query(x, 0, 64);
        x.near(MAX, 0);
        Check.due("costs", Runs.found(x, 3), "0 64000");
        for (int n = 1; n < 12; n++) {
            x.query(127, 64);
        }
        x.near(MAX, 0);
        Check.due("costs", Runs.found(x, 3), "704000 768000");
    }

    private static void nearShift() {
        TuneSearch x = hundreds(60, 1, 64, 1, 62, 1);
        Runs.query(x, 62, 1);
        x.near(0, 24);
        Check.due("shifts", Runs.found(x, 4), "-2 2 0");
    }

    private static void nearShiftEnds() {
        TuneSearch x = hundreds(36, 1, 84, 1);
        Runs.query(x, 60, 1);
        x.near(0, 24);
        Check.due("shifts", Runs.found(x, 4), "-24 24");
    }

    private static void nearestShift() {
        TuneSearch x = Runs.withTune(60, 1, 64, 1);
        Runs.prices(x, 1, 1000, 1000, 1000, 1000);
        Runs.query(x, 62, 1, 62, 1);
        x.near(10, 24);
        // 62 62 to 60 64 costs 4 by every shift from -2 to 2.
        Check.due("found", Runs.found(x), "0:0:2:4:0");
        Runs.query(x, 52, 1, 52, 1);
        x.near(10, 24);
        // Now by every one from 8 to 12.
        Check.due("found", Runs.found(x), "0:0:2:4:8");
        Runs.query(x, 72, 1, 72, 1);
        x.near(10, 24);
        Check.due("found", Runs.found(x), "0:0:2:4:-8");
    }

    private static void nearestOfAll() {
        TuneSearch x = hundreds(60, 1, 64, 1, 62, 1);
        x.price(0, 0);
        Runs.query(x, 62, 1);
        x.near(0, 24);
        Check.due("shifts, when pitches cost nothing", Runs.found(x, 4), "0 0 0");
        Runs.query(x, -1, 1);
        x.near(MAX, 24);
        Check.due("shifts of a rest", Runs.found(x, 4), "0 0 0 0");
    }

    private static void shiftBelow() {
        TuneSearch x = Runs.withTune(64, 1, 60, 1);
        Runs.prices(x, 1, 1000, 1000, 0, 1000);
        Runs.query(x, 62, 1);
        x.near(0, 24);
        // Behind 60: 64 by 2 with 60 alone for nothing, or 60 by -2.
        Check.due("found", Runs.found(x), "0:0:1:0:2 0:1:2:0:-2");
        TuneSearch y = Runs.withTune(60, 1, 64, 1);
        Runs.prices(y, 1, 1000, 1000, 0, 1000);
        Runs.query(y, 62, 1);
        y.near(0, 24);
        Check.due("found, both the other way", Runs.found(y), "0:0:1:0:-2 0:0:2:0:-2");
    }

    private static void shiftBelowNotFarther() {
        TuneSearch x = Runs.withTune(60, 1, 64, 1);
        Runs.prices(x, 1, 1000, 1000, 0, 1000);
        Runs.query(x, 63, 1);
        x.near(0, 24);
        // Behind 64: 60 by -3, or 64 by 1.
        Check.due("found", Runs.found(x), "0:0:1:0:-3 0:1:2:0:1");
    }

    private static void lastPlace() {
        TuneSearch x = Runs.withTune(60, 1, 70, 1, 60, 1, 70, 1, 70, 1);
        x.price(3, 0);
        Runs.query(x, 60, 1);
        x.near(0, 0);
        Check.due("found", Runs.found(x), "0:0:1:0:0 0:0:2:0:0 0:2:3:0:0 0:2:4:0:0 0:2:5:0:0");
    }

    private static void lastPlaceIsEnd() {
        TuneSearch x = Runs.withTune(60, 1, 70, 1);
        Runs.prices(x, 0, 0, 0, 0, 0);
        Runs.query(x, 60, 1);
        x.near(0, 2);
        Check.due("found, all for nothing", Runs.found(x), "0:0:0:0:0 0:1:1:0:0 0:2:2:0:0");
        Runs.prices(x, 100, 100, 100, 100, 100);
        Runs.query(x, 90, 1);
        x.near(100, 0);
        Check.due("found, the query alone", Runs.found(x), "0:0:0:100:0 0:1:1:100:0 0:2:2:100:0");
    }

    private static void shiftBeforePlace() {
        TuneSearch x = Runs.withTune(60, 2, 64, 1, 64, 2);
        Runs.prices(x, 1, 1000, 1000, 0, 1000);
        Runs.query(x, 62, 2);
        x.near(0, 24);
        // Behind the last 64: from place 2 by 2, from place 0 by -2.
        Check.due("found", Runs.found(x), "0:0:1:0:-2 0:0:2:0:-2 0:0:3:0:-2");
        TuneSearch y = hundreds(60, 1, 64, 1, 62, 1);
        Runs.query(y, 62, 1);
        y.near(100, 1);
        // 62 by -1 with 60 costs 100, like 62 alone by 0.
        Check.due("found", Runs.found(y), "0:2:3:0:0 0:0:0:100:0 0:1:1:100:0 0:2:2:100:0");
    }

    private static void cheaperWins() {
        TuneSearch x = Runs.withTune(60, 1);
        Runs.prices(x, 1, 1000, 1000, 1000, 1000);
        Runs.query(x, 67, 1);
        int[] costs = {7, 6, 5, 4, 3, 2, 1, 0, 0};
        for (int shifts = 0; shifts < costs.length; shifts++) {
            x.near(7, shifts);
            String want = "0:0:1:" + costs[shifts] + ":" + -Math.min(7, shifts);
            Check.due("found behind near(7, " + shifts + ")", Runs.found(x), want);
        }
    }

    private static void eachEnd() {
        TuneSearch x = hundreds(60, 1, 65, 1, 70, 1);
        Runs.query(x, 65, 1);
        x.near(0, 24);
        Check.due("found", Runs.found(x), "0:0:1:0:-5 0:1:2:0:0 0:2:3:0:5");
    }

    private static void eachOfThem() {
        TuneSearch x = withWord(".*");
        Runs.fill(x, 0, 24, 60, 1);
        x.find(0);
        for (int k = 0; k < 24; k++) {
            Check.due("found(" + k + ", 1)", x.found(k, 1), k);
            Check.due("found(" + k + ", 2)", x.found(k, 2), 24 - k);
        }
    }

    private static void latestFind() {
        TuneSearch x = withWord("61", 60, 1, 61, 1);
        x.near(0, 0);
        x.find(0);
        Check.due("found", Runs.found(x), "0:1:1:0:0");
    }

    private static void latestNear() {
        TuneSearch x = withWord("61", 60, 1, 61, 1);
        x.find(0);
        x.near(0, 0);
        Check.due("found", Runs.found(x), "0:0:0:0:0 0:1:1:0:0 0:2:2:0:0");
    }

    private static void badFind() {
        TuneSearch x = hundreds(60, 1);
        Runs.word(x, ".");
        Runs.query(x, 63, 1);
        x.near(0, 3);
        x.find(5);
        x.find(-1);
        Check.due("found is of the near()", Runs.found(x), "0:0:1:0:-3");
    }

    private static void badNear() {
        TuneSearch x = withWord(".+", 60, 1, 61, 1);
        x.find(0);
        x.near(-1, 0);
        x.near(0, 25);
        Check.due("found is of the find()", Runs.found(x), "0:0:2:0:0 0:1:1:0:0");
    }

    private static void asOfThen() {
        TuneSearch x = hundreds(60, 1);
        Runs.query(x, 61, 1);
        x.near(0, 1);
        x.note(0, 60, 1);
        x.tune();
        x.forget();
        x.price(0, 9);
        Check.due("found behind a near()", Runs.found(x), "0:0:1:0:-1");
        TuneSearch y = withWord("60", 60, 1, 61, 1, 60, 1);
        y.find(0);
        y.note(0, 60, 1);
        Runs.word(y, "61");
        Check.due("found behind a find()", Runs.found(y), "0:0:1:0:0 0:2:1:0:0");
    }

    private static TuneSearch withTwoFound() {
        TuneSearch x = withWord("60", 60, 1, 61, 1, 60, 1);
        x.find(0);
        return x;
    }

    private static void dueOutside(TuneSearch x, int k, int what) {
        Check.dueThrow("found(" + k + ", " + what + ")", () -> x.found(k, what), IndexOutOfBoundsException.class);
    }

    private static void kBelow() {
        TuneSearch x = withTwoFound();
        for (int what = 0; what < 5; what++) {
            dueOutside(x, -1, what);
            dueOutside(x, MIN, what);
        }
    }

    private static void kBeyond() {
        TuneSearch x = withTwoFound();
        for (int what = 0; what < 5; what++) {
            dueOutside(x, 2, what);
            dueOutside(x, 3, what);
            dueOutside(x, MAX, what);
        }
        Check.due("found(1, 1)", x.found(1, 1), 2);
    }

    private static void nothingFound() {
        TuneSearch x = withTwoFound();
        Runs.word(x, "99");
        x.find(0);
        dueOutside(x, 0, 0);
        x.query(0, 64);
        x.near(0, 0);
        dueOutside(x, 0, 0);
    }

    private static void newObject() {
        dueOutside(new TuneSearch(), 0, 0);
        dueOutside(new TuneSearch(), -1, 4);
    }

    private static void kBeyondAll() {
        TuneSearch x = Runs.full(60, 1);
        x.near(0, 0);
        Check.due("found(199, 0)", x.found(199, 0), 7);
        dueOutside(x, 200, 0);
        dueOutside(x, 201, 4);
        Runs.word(x, ".");
        x.find(0);
        Check.due("found(191, 0)", x.found(191, 0), 7);
        dueOutside(x, 192, 0);
    }

    private static void whatBelow() {
        TuneSearch x = withTwoFound();
        dueOutside(x, 0, -1);
        dueOutside(x, 1, -2);
        dueOutside(x, 0, MIN);
    }

    private static void whatAbove() {
        TuneSearch x = withTwoFound();
        dueOutside(x, 0, 5);
        dueOutside(x, 1, 6);
        dueOutside(x, 0, MAX);
        Check.due("found(1, 4)", x.found(1, 4), 0);
    }

    private static void throwingChangesNothing() {
        TuneSearch x = withTwoFound();
        dueOutside(x, 2, 0);
        dueOutside(x, 0, 5);
        Check.due("all that is seen", Probe.read(x), Probe.read(withTwoFound()));
    }
}
