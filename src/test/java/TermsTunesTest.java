/** Terms, 1 TUNES: a test for each sentence that names a bound. */
public final class TermsTunesTest {
    private static final int[] TOO_LOW = {-2, -3, -128, Integer.MIN_VALUE};
    private static final int[] TOO_HIGH = {128, 129, 256, Integer.MAX_VALUE};
    private static final int[] TOO_SHORT = {0, -1, -64, Integer.MIN_VALUE};
    private static final int[] TOO_LONG = {65, 66, 128, Integer.MAX_VALUE};

    public static void main(String[] args) {
        Check.sentence("TUNES 0, 1, ..: counted from 0 on", TermsTunesTest::tunesFromNought);
        Check.sentence("TUNES (8 at most): the 8th", TermsTunesTest::eighthTune);
        Check.sentence("TUNES (8 at most): a 9th", TermsTunesTest::ninthTune);
        Check.sentence("NOTES (24 at most): the 24th", TermsTunesTest::note24);
        Check.sentence("NOTES (24 at most): a 25th", TermsTunesTest::note25);
        Check.sentence("rows of NOTES .. or RESTS (24 at most of both)", TermsTunesTest::restsAmong24);
        Check.sentence("TUNES are rows of NOTES (24 at most): each of its own", TermsTunesTest::each24);
        Check.sentence("PITCH (0 .. 127): the least", TermsTunesTest::leastPitch);
        Check.sentence("PITCH (0 .. 127): too small", TermsTunesTest::pitchTooSmall);
        Check.sentence("PITCH (0 .. 127): the greatest", TermsTunesTest::greatestPitch);
        Check.sentence("PITCH (0 .. 127): too large", TermsTunesTest::pitchTooLarge);
        Check.sentence("RESTS (PITCH -1)", TermsTunesTest::restIsOneBelow);
        Check.sentence("LENGTH (1 .. 64): the least", TermsTunesTest::leastLength);
        Check.sentence("LENGTH (1 .. 64): too small", TermsTunesTest::lengthTooSmall);
        Check.sentence("LENGTH (1 .. 64): the greatest", TermsTunesTest::greatestLength);
        Check.sentence("LENGTH (1 .. 64): too large", TermsTunesTest::lengthTooLarge);
        Check.sentence("RESTS .. and a LENGTH (1 .. 64)", TermsTunesTest::lengthOfRest);
        Check.sentence("BEGIN is the sum of LENGTHS before: of the first NOTE", TermsTunesTest::beginOfFirst);
        Check.sentence("BEGIN is the sum of LENGTHS before: of a later one", TermsTunesTest::beginOfLater);
        Check.sentence("BEGIN is the sum of LENGTHS before (RESTS, too)", TermsTunesTest::beginBehindRests);
        Check.sentence("BEGIN is the sum of LENGTHS before: the greatest", TermsTunesTest::greatestBegin);
        Check.sentence("THE QUERY (12 at most): the 12th", TermsTunesTest::query12);
        Check.sentence("THE QUERY (12 at most): a 13th", TermsTunesTest::query13);
        Check.sentence("THE QUERY is such a row: RESTS among the 12", TermsTunesTest::restsInQuery);
        Check.sentence("THE QUERY is such a row: PITCH (0 .. 127), the ends", TermsTunesTest::queryPitchEnds);
        Check.sentence("THE QUERY is such a row: PITCH too small", TermsTunesTest::queryPitchTooSmall);
        Check.sentence("THE QUERY is such a row: PITCH too large", TermsTunesTest::queryPitchTooLarge);
        Check.sentence("THE QUERY is such a row: LENGTH (1 .. 64), the ends", TermsTunesTest::queryLengthEnds);
        Check.sentence("THE QUERY is such a row: LENGTH too small", TermsTunesTest::queryLengthTooSmall);
        Check.sentence("THE QUERY is such a row: LENGTH too large", TermsTunesTest::queryLengthTooLarge);
        Check.sentence("PRICES 0 .. 7: there are these", TermsTunesTest::pricesThere);
        Check.sentence("PRICES 0 .. 7: no other below", TermsTunesTest::noPriceBelow);
        Check.sentence("PRICES 0 .. 7: no other above", TermsTunesTest::noPriceAbove);
        Check.sentence("PRICES are 0 .. 1000 each: the least", TermsTunesTest::leastPrice);
        Check.sentence("PRICES are 0 .. 1000 each: too small", TermsTunesTest::priceTooSmall);
        Check.sentence("PRICES are 0 .. 1000 each: the greatest", TermsTunesTest::greatestPrice);
        Check.sentence("PRICES are 0 .. 1000 each: too large", TermsTunesTest::priceTooLarge);
        Check.sentence("PRICES are .. each: at first 1", TermsTunesTest::priceAtFirst);
        Check.end();
    }

    private static TuneSearch withTunes(int count) {
        TuneSearch x = new TuneSearch();
        for (int t = 0; t < count; t++) {
            x.tune();
        }
        return x;
    }

    private static void tunesFromNought() {
        TuneSearch x = new TuneSearch();
        Check.due("the first tune()", x.tune(), 0);
        Check.due("the second tune()", x.tune(), 1);
        Check.due("the third tune()", x.tune(), 2);
    }

    private static void eighthTune() {
        TuneSearch x = withTunes(7);
        Check.due("the 8th tune()", x.tune(), 7);
        Check.due("a note of it", x.note(7, 60, 1), 1);
    }

    private static void ninthTune() {
        TuneSearch x = withTunes(8);
        Check.due("a 9th tune()", x.tune(), TuneSearch.FULL);
        Check.due("a 9th tune() again", x.tune(), TuneSearch.FULL);
        Check.due("a note of a 9th", x.note(8, 60, 1), TuneSearch.NONE);
    }

    private static TuneSearch withNotes(int count) {
        TuneSearch x = withTunes(1);
        Runs.fill(x, 0, count, 60, 1);
        return x;
    }

    private static void note24() {
        TuneSearch x = withNotes(23);
        Check.due("the 24th note", x.note(0, 60, 1), 24);
    }

    private static void note25() {
        TuneSearch x = withNotes(24);
        Check.due("a 25th note", x.note(0, 60, 1), TuneSearch.FULL);
        Check.due("a 25th note again", x.note(0, 60, 1), TuneSearch.FULL);
    }

    private static void restsAmong24() {
        TuneSearch x = withTunes(1);
        Runs.fill(x, 0, 23, -1, 1);
        Check.due("a note behind 23 rests", x.note(0, 60, 1), 24);
        Check.due("a note behind 23 rests and a note", x.note(0, 60, 1), TuneSearch.FULL);
        Check.due("a rest behind 23 rests and a note", x.note(0, -1, 1), TuneSearch.FULL);
    }

    private static void each24() {
        TuneSearch x = withTunes(8);
        for (int t = 0; t < 8; t++) {
            Runs.fill(x, t, 23, 60, 1);
            Check.due("the 24th note of tune " + t, x.note(t, 60, 1), 24);
            Check.due("a 25th note of tune " + t, x.note(t, 60, 1), TuneSearch.FULL);
        }
    }

    private static void leastPitch() {
        TuneSearch x = withTunes(1);
        Check.due("note(0, 0, 1)", x.note(0, 0, 1), 1);
        Words.dueFinds(x, "0", 0, "0:1");
    }

    private static void pitchTooSmall() {
        for (int pitch : TOO_LOW) {
            Check.due("note(0, " + pitch + ", 1)", withTunes(1).note(0, pitch, 1), TuneSearch.BAD);
        }
    }

    private static void greatestPitch() {
        TuneSearch x = withTunes(1);
        Check.due("note(0, 127, 1)", x.note(0, 127, 1), 1);
        Words.dueFinds(x, "127", 0, "0:1");
    }

    private static void pitchTooLarge() {
        for (int pitch : TOO_HIGH) {
            Check.due("note(0, " + pitch + ", 1)", withTunes(1).note(0, pitch, 1), TuneSearch.BAD);
        }
    }

    private static void restIsOneBelow() {
        TuneSearch x = withTunes(1);
        Check.due("note(0, -1, 1)", x.note(0, -1, 1), 1);
        Words.dueFinds(x, "r", 0, "0:1");
        Words.dueFinds(x, "-1", 0, "");
    }

    private static void leastLength() {
        TuneSearch x = withTunes(1);
        Check.due("note(0, 60, 1)", x.note(0, 60, 1), 1);
        Words.dueFinds(x, "1", 3, "0:1");
    }

    private static void lengthTooSmall() {
        for (int length : TOO_SHORT) {
            Check.due("note(0, 60, " + length + ")", withTunes(1).note(0, 60, length), TuneSearch.BAD);
        }
    }

    private static void greatestLength() {
        TuneSearch x = withTunes(1);
        Check.due("note(0, 60, 64)", x.note(0, 60, 64), 1);
        Words.dueFinds(x, "64", 3, "0:1");
    }

    private static void lengthTooLarge() {
        for (int length : TOO_LONG) {
            Check.due("note(0, 60, " + length + ")", withTunes(1).note(0, 60, length), TuneSearch.BAD);
        }
    }

    private static void lengthOfRest() {
        TuneSearch x = withTunes(1);
        Check.due("note(0, -1, 0)", x.note(0, -1, 0), TuneSearch.BAD);
        Check.due("note(0, -1, 65)", x.note(0, -1, 65), TuneSearch.BAD);
        Check.due("note(0, -1, 1)", x.note(0, -1, 1), 1);
        Check.due("note(0, -1, 64)", x.note(0, -1, 64), 2);
    }

    /** A new object whose freight tells the difference of BEGINS times the units that go, and no more. */
    private static TuneSearch beginsTold() {
        TuneSearch x = new TuneSearch();
        Runs.carryPrices(x, 1, 0, 0);
        return x;
    }

    private static void beginOfFirst() {
        TuneSearch x = beginsTold();
        Runs.tune(x, 60, 64);
        Runs.tune(x, 60, 3);
        Check.due("freight(0, 1)", x.freight(0, 1), 0);
    }

    private static void beginOfLater() {
        TuneSearch x = beginsTold();
        // Three units stay at 0, the other two lie 3 before the note that takes them.
        Runs.tune(x, 60, 5);
        Runs.tune(x, 60, 3, 60, 2);
        Check.due("freight(0, 1)", x.freight(0, 1), 2 * 3);
    }

    private static void beginBehindRests() {
        TuneSearch x = beginsTold();
        Runs.tune(x, 60, 1);
        Runs.tune(x, -1, 5, -1, 64, 60, 1);
        Check.due("freight(0, 1)", x.freight(0, 1), 69);
    }

    private static void greatestBegin() {
        TuneSearch x = beginsTold();
        Runs.tune(x, 60, 1);
        x.tune();
        Runs.fill(x, 1, 23, -1, 64);
        x.note(1, 60, 1);
        Check.due("freight(0, 1)", x.freight(0, 1), 23 * 64);
    }

    private static TuneSearch withQuery(int count, int pitch) {
        TuneSearch x = new TuneSearch();
        for (int n = 0; n < count; n++) {
            x.query(pitch, 1);
        }
        return x;
    }

    private static void query12() {
        Check.due("the 12th", withQuery(11, 60).query(60, 1), 12);
    }

    private static void query13() {
        TuneSearch x = withQuery(12, 60);
        Check.due("a 13th", x.query(60, 1), TuneSearch.FULL);
        Check.due("a 13th again", x.query(60, 1), TuneSearch.FULL);
    }

    private static void restsInQuery() {
        TuneSearch x = withQuery(11, -1);
        Check.due("a 12th, a rest", x.query(-1, 1), 12);
        Check.due("a 13th, a rest", x.query(-1, 1), TuneSearch.FULL);
        Check.due("a 13th, a note", x.query(60, 1), TuneSearch.FULL);
    }

    private static void queryPitchEnds() {
        TuneSearch x = new TuneSearch();
        Check.due("query(0, 1)", x.query(0, 1), 1);
        Check.due("query(127, 1)", x.query(127, 1), 2);
        Check.due("query(-1, 1)", x.query(-1, 1), 3);
    }

    private static void queryPitchTooSmall() {
        for (int pitch : TOO_LOW) {
            Check.due("query(" + pitch + ", 1)", new TuneSearch().query(pitch, 1), TuneSearch.BAD);
        }
    }

    private static void queryPitchTooLarge() {
        for (int pitch : TOO_HIGH) {
            Check.due("query(" + pitch + ", 1)", new TuneSearch().query(pitch, 1), TuneSearch.BAD);
        }
    }

    private static void queryLengthEnds() {
        TuneSearch x = new TuneSearch();
        Check.due("query(60, 1)", x.query(60, 1), 1);
        Check.due("query(60, 64)", x.query(60, 64), 2);
        Check.due("query(-1, 64)", x.query(-1, 64), 3);
    }

    private static void queryLengthTooSmall() {
        for (int length : TOO_SHORT) {
            Check.due("query(60, " + length + ")", new TuneSearch().query(60, length), TuneSearch.BAD);
            Check.due("query(-1, " + length + ")", new TuneSearch().query(-1, length), TuneSearch.BAD);
        }
    }

    private static void queryLengthTooLarge() {
        for (int length : TOO_LONG) {
            Check.due("query(60, " + length + ")", new TuneSearch().query(60, length), TuneSearch.BAD);
            Check.due("query(-1, " + length + ")", new TuneSearch().query(-1, length), TuneSearch.BAD);
        }
    }

    private static void pricesThere() {
        TuneSearch x = new TuneSearch();
        for (int k = 0; k < 8; k++) {
            x.price(k, 10 + k);
        }
        for (int k = 0; k < 8; k++) {
            Check.due("price(" + k + ", 1) was", x.price(k, 1), 10 + k);
        }
    }

    private static void noPriceBelow() {
        Check.due("price(-1, 1)", new TuneSearch().price(-1, 1), TuneSearch.NONE);
        Check.due("price(-8, 1)", new TuneSearch().price(-8, 1), TuneSearch.NONE);
        Check.due("price(MIN, 1)", new TuneSearch().price(Integer.MIN_VALUE, 1), TuneSearch.NONE);
    }

    private static void noPriceAbove() {
        Check.due("price(8, 1)", new TuneSearch().price(8, 1), TuneSearch.NONE);
        Check.due("price(9, 1)", new TuneSearch().price(9, 1), TuneSearch.NONE);
        Check.due("price(MAX, 1)", new TuneSearch().price(Integer.MAX_VALUE, 1), TuneSearch.NONE);
    }

    private static void leastPrice() {
        TuneSearch x = new TuneSearch();
        for (int k = 0; k < 8; k++) {
            Check.due("price(" + k + ", 0)", x.price(k, 0), 1);
            Check.due("price(" + k + ", 1) behind it", x.price(k, 1), 0);
        }
    }

    private static void priceTooSmall() {
        TuneSearch x = new TuneSearch();
        for (int k = 0; k < 8; k++) {
            Check.due("price(" + k + ", -1)", x.price(k, -1), TuneSearch.BAD);
            Check.due("price(" + k + ", MIN)", x.price(k, Integer.MIN_VALUE), TuneSearch.BAD);
        }
    }

    private static void greatestPrice() {
        TuneSearch x = new TuneSearch();
        for (int k = 0; k < 8; k++) {
            Check.due("price(" + k + ", 1000)", x.price(k, 1000), 1);
            Check.due("price(" + k + ", 1) behind it", x.price(k, 1), 1000);
        }
    }

    private static void priceTooLarge() {
        TuneSearch x = new TuneSearch();
        for (int k = 0; k < 8; k++) {
            Check.due("price(" + k + ", 1001)", x.price(k, 1001), TuneSearch.BAD);
            Check.due("price(" + k + ", MAX)", x.price(k, Integer.MAX_VALUE), TuneSearch.BAD);
        }
    }

    private static void priceAtFirst() {
        TuneSearch x = new TuneSearch();
        for (int k = 0; k < 8; k++) {
            Check.due("price(" + k + ", 500) at first", x.price(k, 500), 1);
        }
    }
}
