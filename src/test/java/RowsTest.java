/** Promises 1 to 6: a new object, tune, note, query, forget, price. */
public final class RowsTest {
    private static final int[] NO_TUNES = {-1, 1, 7, 8, Integer.MIN_VALUE, Integer.MAX_VALUE};

    public static void main(String[] args) {
        newObject();
        tunesAndNotes();
        queryAndForget();
        prices();
        Check.end();
    }

    private static void newObject() {
        Check.sentence("1: No TUNES", RowsTest::noTunes);
        Check.sentence("1: an empty QUERY", RowsTest::emptyQuery);
        Check.sentence("1: an empty tape", RowsTest::emptyTape);
        Check.sentence("1: no word", RowsTest::noWord);
        Check.sentence("1: A new object: each for itself", RowsTest::eachForItself);
        Check.sentence("An object is used for at most 512 calls: the 512th", RowsTest::call512);
    }

    private static void tunesAndNotes() {
        Check.sentence("2: A TUNE of no NOTES", RowsTest::tuneOfNoNotes);
        Check.sentence("2: its number", RowsTest::tuneNumber);
        Check.sentence("2: FULL", RowsTest::tuneFull);
        Check.sentence("3: comes behind the others of a TUNE", RowsTest::noteBehindOthers);
        Check.sentence("3: A NOTE (or REST): how many it has", RowsTest::noteCount);
        Check.sentence("3: how many it has: that TUNE alone", RowsTest::noteCountOfTune);
        Check.sentence("3: NONE", RowsTest::noteNone);
        Check.sentence("3: NONE, of no TUNES at all", RowsTest::noteOfNoTunes);
        Check.sentence("3: BAD, pitch", RowsTest::noteBadPitch);
        Check.sentence("3: BAD, length", RowsTest::noteBadLength);
        Check.sentence("3: FULL", RowsTest::noteFull);
    }

    private static void queryAndForget() {
        Check.sentence("4: Likewise: behind the others of THE QUERY", RowsTest::queryBehindOthers);
        Check.sentence("4: Likewise: how many it has", RowsTest::queryCount);
        Check.sentence("4: BAD, pitch", RowsTest::queryBadPitch);
        Check.sentence("4: BAD, length", RowsTest::queryBadLength);
        Check.sentence("4: FULL", RowsTest::queryFull);
        Check.sentence("4: for THE QUERY: without TUNES", RowsTest::queryWithoutTunes);
        Check.sentence("5: THE QUERY is empty", RowsTest::forgetEmpties);
        Check.sentence("5: how many it had: none", RowsTest::forgetNone);
        Check.sentence("5: how many it had: 12", RowsTest::forgetAll);
        Check.sentence("5: how many it had: rests, too", RowsTest::forgetRests);
        Check.sentence("5: THE QUERY is empty: it takes 12 again", RowsTest::forgetMakesRoom);
        Check.sentence("5: THE QUERY, not the TUNES", RowsTest::forgetLeavesTunes);
    }

    private static void prices() {
        Check.sentence("6: A PRICE becomes v", RowsTest::priceBecomes);
        Check.sentence("6: A PRICE becomes v: no other does", RowsTest::priceAlone);
        Check.sentence("6: what it was", RowsTest::priceWas);
        Check.sentence("6: what it was: 0, 1000", RowsTest::priceWasEnds);
        Check.sentence("6: NONE: there is none such", RowsTest::priceNone);
        Check.sentence("6: BAD", RowsTest::priceBad);
    }

    private static void noTunes() {
        TuneSearch x = new TuneSearch();
        Check.due("told(0)", x.told(0), 0);
        Check.due("told(1)", x.told(1), 0);
        Check.due("note(0, 60, 1)", x.note(0, 60, 1), TuneSearch.NONE);
        Check.due("families(0)", x.families(0), 0);
        Check.due("tune()", x.tune(), 0);
    }

    private static void emptyQuery() {
        TuneSearch x = Runs.withTune(60, 1);
        Check.due("told(2)", x.told(2), 0);
        x.near(0, 0);
        Check.due("near(0, 0)", Runs.found(x), "0:0:0:0:0 0:1:1:0:0");
        Check.due("forget()", x.forget(), 0);
    }

    private static void emptyTape() {
        TuneSearch x = new TuneSearch();
        Check.due("told(3)", x.told(3), 0);
        Check.due("type('1', 1)", x.type('1', 1), 1);
    }

    private static void noWord() {
        TuneSearch x = Runs.withTune(60, 1, -1, 1, 60, 1);
        for (int view = 0; view < 5; view++) {
            Check.due("find(" + view + ")", x.find(view), 0);
        }
        Check.due("fault()", x.fault(), 0);
    }

    private static void eachForItself() {
        TuneSearch one = Runs.withTune(60, 1);
        TuneSearch other = new TuneSearch();
        Runs.word(one, ".");
        one.query(60, 1);
        one.price(0, 9);
        one.find(0);
        one.type('1', 1);
        for (int what = 0; what < 5; what++) {
            Check.due("told(" + what + ") of one", one.told(what), 1);
            Check.due("told(" + what + ") of the other", other.told(what), 0);
        }
        Check.due("price(0, 1) of the other", other.price(0, 1), 1);
        Runs.tune(other, 60, 1);
        Check.due("find(0) of the other", other.find(0), 0);
    }

    private static void call512() {
        TuneSearch x = Runs.withTune(60, 1, 62, 1);
        for (int call = 4; call <= 509; call++) {
            x.type('.', 1);
        }
        Check.due("call 510, word() of 160 points", x.word(), -60);
        Check.due("call 511, price(0, 5)", x.price(0, 5), 1);
        Check.due("call 512, near(0, 24)", x.near(0, 24), 3);
    }

    private static void tuneOfNoNotes() {
        TuneSearch x = Runs.withTune(60, 1);
        int t = x.tune();
        Check.due("told(1)", x.told(1), 1);
        Check.due("its first note", x.note(t, 61, 1), 1);
    }

    private static void tuneNumber() {
        TuneSearch x = new TuneSearch();
        for (int t = 0; t < 8; t++) {
            Check.due("tune()", x.tune(), t);
            Check.due("told(0)", x.told(0), t + 1);
        }
    }

    private static void tuneFull() {
        TuneSearch x = Runs.full(60, 1);
        Check.due("tune()", x.tune(), TuneSearch.FULL);
        Check.due("tune() again", x.tune(), TuneSearch.FULL);
        Check.due("told(0)", x.told(0), 8);
    }

    private static void noteBehindOthers() {
        TuneSearch x = Runs.withTune(60, 1, 62, 1);
        x.note(0, 61, 1);
        x.note(0, -1, 1);
        Words.dueSigns(x, 0, "60 62 61 r");
    }

    private static void noteCount() {
        TuneSearch x = Runs.withTune();
        for (int n = 1; n <= 24; n++) {
            Check.due("note " + n, x.note(0, n % 3 == 0 ? -1 : 60, 1), n);
        }
    }

    private static void noteCountOfTune() {
        TuneSearch x = Runs.withTune(60, 1, 61, 1, 62, 1);
        Runs.tune(x, 60, 1);
        Check.due("note(1, 60, 1)", x.note(1, 60, 1), 2);
        Check.due("note(0, 60, 1)", x.note(0, 60, 1), 4);
    }

    private static void noteNone() {
        TuneSearch x = Runs.withTune();
        for (int t : NO_TUNES) {
            Check.due("note(" + t + ", 60, 1)", x.note(t, 60, 1), TuneSearch.NONE);
        }
    }

    private static void noteOfNoTunes() {
        Check.due("note(0, 60, 1)", new TuneSearch().note(0, 60, 1), TuneSearch.NONE);
        Check.due("note(0, -2, 0)", new TuneSearch().note(0, -2, 0), TuneSearch.NONE);
    }

    private static void noteBadPitch() {
        TuneSearch x = Runs.withTune();
        Check.due("note(0, -2, 1)", x.note(0, -2, 1), TuneSearch.BAD);
        Check.due("note(0, 128, 1)", x.note(0, 128, 1), TuneSearch.BAD);
        Check.due("note(0, MIN, 1)", x.note(0, Integer.MIN_VALUE, 1), TuneSearch.BAD);
        Check.due("note(0, MAX, 1)", x.note(0, Integer.MAX_VALUE, 1), TuneSearch.BAD);
    }

    private static void noteBadLength() {
        TuneSearch x = Runs.withTune();
        Check.due("note(0, 60, 0)", x.note(0, 60, 0), TuneSearch.BAD);
        Check.due("note(0, 60, 65)", x.note(0, 60, 65), TuneSearch.BAD);
        Check.due("note(0, 60, MIN)", x.note(0, 60, Integer.MIN_VALUE), TuneSearch.BAD);
        Check.due("note(0, 60, MAX)", x.note(0, 60, Integer.MAX_VALUE), TuneSearch.BAD);
    }

    private static void noteFull() {
        TuneSearch x = Runs.withTune();
        Runs.fill(x, 0, 24, 60, 1);
        Check.due("note(0, 60, 1)", x.note(0, 60, 1), TuneSearch.FULL);
        Check.due("told(1)", x.told(1), 24);
    }

    private static void queryBehindOthers() {
        TuneSearch x = Runs.withTune(60, 1, 70, 2, -1, 3);
        x.query(60, 1);
        x.query(70, 2);
        x.query(-1, 3);
        Check.due("near(0, 0)", x.near(0, 0), 1);
        Check.due("found", Runs.found(x), "0:0:3:0:0");
    }

    private static void queryCount() {
        TuneSearch x = new TuneSearch();
        for (int n = 1; n <= 12; n++) {
            Check.due("query " + n, x.query(n % 3 == 0 ? -1 : 60, 1), n);
        }
    }

    private static void queryBadPitch() {
        TuneSearch x = new TuneSearch();
        Check.due("query(-2, 1)", x.query(-2, 1), TuneSearch.BAD);
        Check.due("query(128, 1)", x.query(128, 1), TuneSearch.BAD);
        Check.due("query(MIN, 1)", x.query(Integer.MIN_VALUE, 1), TuneSearch.BAD);
        Check.due("query(MAX, 1)", x.query(Integer.MAX_VALUE, 1), TuneSearch.BAD);
    }

    private static void queryBadLength() {
        TuneSearch x = new TuneSearch();
        Check.due("query(60, 0)", x.query(60, 0), TuneSearch.BAD);
        Check.due("query(60, 65)", x.query(60, 65), TuneSearch.BAD);
        Check.due("query(60, MIN)", x.query(60, Integer.MIN_VALUE), TuneSearch.BAD);
        Check.due("query(60, MAX)", x.query(60, Integer.MAX_VALUE), TuneSearch.BAD);
    }

    private static TuneSearch fullOfQuery() {
        TuneSearch x = new TuneSearch();
        for (int n = 0; n < 12; n++) {
            x.query(60, 1);
        }
        return x;
    }

    private static void queryFull() {
        TuneSearch x = fullOfQuery();
        Check.due("query(60, 1)", x.query(60, 1), TuneSearch.FULL);
        Check.due("told(2)", x.told(2), 12);
    }

    private static void queryWithoutTunes() {
        TuneSearch x = new TuneSearch();
        Check.due("query(60, 1)", x.query(60, 1), 1);
        Check.due("told(1)", x.told(1), 0);
        Check.due("told(0)", x.told(0), 0);
    }

    private static void forgetEmpties() {
        TuneSearch x = Runs.withTune(60, 1);
        x.query(90, 64);
        x.forget();
        Check.due("told(2)", x.told(2), 0);
        Check.due("near(0, 0)", x.near(0, 0), 2);
        Check.due("query(0, 1)", x.query(0, 1), 1);
    }

    private static void forgetNone() {
        TuneSearch x = new TuneSearch();
        Check.due("forget() at first", x.forget(), 0);
        x.query(60, 1);
        x.forget();
        Check.due("forget() behind a forget()", x.forget(), 0);
    }

    private static void forgetAll() {
        Check.due("forget()", fullOfQuery().forget(), 12);
    }

    private static void forgetRests() {
        TuneSearch x = new TuneSearch();
        x.query(-1, 1);
        x.query(60, 1);
        x.query(-1, 1);
        Check.due("forget()", x.forget(), 3);
    }

    private static void forgetMakesRoom() {
        TuneSearch x = fullOfQuery();
        x.forget();
        for (int n = 1; n <= 12; n++) {
            Check.due("query " + n, x.query(60, 1), n);
        }
        Check.due("a 13th", x.query(60, 1), TuneSearch.FULL);
    }

    private static void forgetLeavesTunes() {
        TuneSearch x = Runs.withTune(60, 1, 61, 1);
        x.query(60, 1);
        x.forget();
        Check.due("told(0)", x.told(0), 1);
        Check.due("told(1)", x.told(1), 2);
    }

    private static void priceBecomes() {
        TuneSearch x = Runs.withTune(60, 1);
        Runs.tune(x);
        x.price(2, 77);
        Check.due("distance(0, 1, 0)", x.distance(0, 1, 0), 77);
        x.price(2, 0);
        Check.due("distance(0, 1, 0)", x.distance(0, 1, 0), 0);
        x.price(2, 1000);
        Check.due("distance(0, 1, 0)", x.distance(0, 1, 0), 1000);
    }

    private static void priceAlone() {
        for (int k = 0; k < 8; k++) {
            TuneSearch x = new TuneSearch();
            x.price(k, 500);
            for (int other = 0; other < 8; other++) {
                Check.due("price(" + other + ", 1) was", x.price(other, 1), other == k ? 500 : 1);
            }
        }
    }

    private static void priceWas() {
        TuneSearch x = new TuneSearch();
        Check.due("price(3, 5)", x.price(3, 5), 1);
        Check.due("price(3, 6)", x.price(3, 6), 5);
        Check.due("price(3, 6)", x.price(3, 6), 6);
    }

    private static void priceWasEnds() {
        TuneSearch x = new TuneSearch();
        x.price(3, 0);
        Check.due("price(3, 1000)", x.price(3, 1000), 0);
        Check.due("price(3, 0)", x.price(3, 0), 1000);
    }

    private static void priceNone() {
        TuneSearch x = new TuneSearch();
        int[] none = {-1, 8, Integer.MIN_VALUE, Integer.MAX_VALUE};
        for (int k : none) {
            Check.due("price(" + k + ", 1)", x.price(k, 1), TuneSearch.NONE);
        }
    }

    private static void priceBad() {
        TuneSearch x = new TuneSearch();
        int[] bad = {-1, 1001, Integer.MIN_VALUE, Integer.MAX_VALUE};
        for (int v : bad) {
            Check.due("price(0, " + v + ")", x.price(0, v), TuneSearch.BAD);
            Check.due("price(7, " + v + ")", x.price(7, v), TuneSearch.BAD);
        }
    }
}
