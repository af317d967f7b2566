import java.util.function.Supplier;

/** Terms, the last sentence: the order of NONE, BAD, FULL, and that what answers so changes nothing. */
public final class TermsAnswersTest {
    public static void main(String[] args) {
        order();
        refusedForNone();
        refusedForBad();
        refusedForFull();
        Check.end();
    }

    private static void order() {
        Check.sentence("in this order, NONE, BAD: note()", TermsAnswersTest::noteNoneBad);
        Check.sentence("in this order, NONE, BAD: price()", TermsAnswersTest::priceNoneBad);
        Check.sentence("in this order, NONE, BAD: distance()", TermsAnswersTest::distanceNoneBad);
        Check.sentence("in this order, NONE, FULL: note()", TermsAnswersTest::noteNoneFull);
        Check.sentence("in this order, BAD, FULL: note()", TermsAnswersTest::noteBadFull);
        Check.sentence("in this order, BAD, FULL: query()", TermsAnswersTest::queryBadFull);
        Check.sentence("in this order, BAD, FULL: type()", TermsAnswersTest::typeBadFull);
    }

    private static void refusedForNone() {
        refused("note() NONE", TermsAnswersTest::rich, TuneSearch.NONE, x -> x.note(3, 50, 5));
        refused("note() NONE below", TermsAnswersTest::rich, TuneSearch.NONE, x -> x.note(-1, 50, 5));
        refused("price() NONE", TermsAnswersTest::rich, TuneSearch.NONE, x -> x.price(8, 5));
        refused("price() NONE below", TermsAnswersTest::rich, TuneSearch.NONE, x -> x.price(-1, 5));
        refused("distance() NONE", TermsAnswersTest::rich, TuneSearch.NONE, x -> x.distance(0, 3, 0));
        refused("freight() NONE", TermsAnswersTest::rich, TuneSearch.NONE, x -> x.freight(3, 0));
        refused("family() NONE", TermsAnswersTest::rich, TuneSearch.NONE, x -> x.family(3));
    }

    private static void refusedForBad() {
        refused("note() BAD, pitch", TermsAnswersTest::rich, TuneSearch.BAD, x -> x.note(0, 128, 5));
        refused("note() BAD, length", TermsAnswersTest::rich, TuneSearch.BAD, x -> x.note(0, 50, 65));
        refused("query() BAD, pitch", TermsAnswersTest::rich, TuneSearch.BAD, x -> x.query(-2, 5));
        refused("query() BAD, length", TermsAnswersTest::rich, TuneSearch.BAD, x -> x.query(50, 0));
        refused("price() BAD, above", TermsAnswersTest::rich, TuneSearch.BAD, x -> x.price(0, 1001));
        refused("price() BAD, below", TermsAnswersTest::rich, TuneSearch.BAD, x -> x.price(0, -1));
        refused("type() BAD, 0 bytes", TermsAnswersTest::rich, TuneSearch.BAD, x -> x.type('*', 0));
        refused("type() BAD, 9 bytes", TermsAnswersTest::rich, TuneSearch.BAD, x -> x.type('*', 9));
        refused("find() BAD behind a near()", TermsAnswersTest::rich, TuneSearch.BAD, x -> x.find(5));
        refused("find() BAD behind a find()", TermsAnswersTest::richOfFinds, TuneSearch.BAD, x -> x.find(-1));
        refused("near() BAD, most", TermsAnswersTest::rich, TuneSearch.BAD, x -> x.near(-1, 0));
        refused("near() BAD, shifts", TermsAnswersTest::richOfFinds, TuneSearch.BAD, x -> x.near(9, 25));
        refused("distance() BAD", TermsAnswersTest::rich, TuneSearch.BAD, x -> x.distance(0, 1, 25));
        refused("families() BAD", TermsAnswersTest::rich, TuneSearch.BAD, x -> x.families(-1));
        refused("told() BAD", TermsAnswersTest::rich, TuneSearch.BAD, x -> x.told(5));
    }

    private static void refusedForFull() {
        refused("tune() FULL", TermsAnswersTest::fullOfTunes, TuneSearch.FULL, x -> x.tune());
        refused("note() FULL", TermsAnswersTest::fullOfNotes, TuneSearch.FULL, x -> x.note(0, 50, 5));
        refused("note() FULL, a REST", TermsAnswersTest::fullOfNotes, TuneSearch.FULL, x -> x.note(0, -1, 5));
        refused("query() FULL", TermsAnswersTest::fullOfQuery, TuneSearch.FULL, x -> x.query(50, 5));
        refused("type() FULL, 1 byte", TermsAnswersTest::fullOfBytes, TuneSearch.FULL, x -> x.type('*', 1));
        refused("type() FULL, 8 bytes", TermsAnswersTest::fullOfBytes, TuneSearch.FULL,
            x -> x.type(0x2A2A2A2A2A2A2A2AL, 8));
        refused("type() FULL, 8 bytes with room for 5", TermsAnswersTest::rich155, TuneSearch.FULL,
            x -> x.type(0x2A2A2A2A2A2A2A2AL, 8));
        refused("type() FULL, 6 bytes with room for 5", TermsAnswersTest::rich155, TuneSearch.FULL,
            x -> x.type(0x2A2A2A2A2A2AL, 6));
    }

    /** A call that is refused, and what it answered. */
    private interface Refused {
        long call(TuneSearch x);
    }

    /** Two objects made alike, one of them with the refused call, must be alike behind it. */
    private static void refused(String name, Supplier<TuneSearch> made, int answer, Refused call) {
        Check.sentence("what answers so changes nothing: " + name, () -> {
            TuneSearch with = made.get();
            Check.due(name, call.call(with), answer);
            Check.due("all that is seen behind " + name, Probe.read(with), Probe.read(made.get()));
        });
    }

    /** Something of all there is: tunes, a query, prices, a word, a text on the tape, families, ends found. */
    private static TuneSearch rich() {
        TuneSearch x = new TuneSearch();
        Runs.tune(x, 60, 2, 62, 1, -1, 3);
        Runs.tune(x, 61, 2, 64, 4);
        Runs.tune(x);
        Runs.query(x, 62, 2, -1, 1);
        for (int k = 0; k < 8; k++) {
            x.price(k, 2 + k);
        }
        Runs.word(x, "60 62?");
        Runs.word(x, "1(");
        Runs.typeText(x, "61|.r");
        x.families(20);
        x.near(20, 1);
        return x;
    }

    private static TuneSearch richOfFinds() {
        TuneSearch x = rich();
        x.find(0);
        return x;
    }

    /** With room for 5 bytes more on the tape. */
    private static TuneSearch rich155() {
        TuneSearch x = rich();
        for (int k = 0; k < 30; k++) {
            x.type(0x2020202020L, 5);
        }
        return x;
    }

    private static TuneSearch fullOfTunes() {
        TuneSearch x = rich();
        for (int t = 3; t < 8; t++) {
            Runs.tune(x, 60 + t, t);
        }
        return x;
    }

    private static TuneSearch fullOfNotes() {
        TuneSearch x = rich();
        Runs.fill(x, 0, 21, 60, 2);
        return x;
    }

    private static TuneSearch fullOfQuery() {
        TuneSearch x = rich();
        for (int n = 2; n < 12; n++) {
            x.query(60, 2);
        }
        return x;
    }

    private static TuneSearch fullOfBytes() {
        TuneSearch x = rich155();
        x.type(0x2020202020L, 5);
        return x;
    }

    private static void noteNoneBad() {
        TuneSearch x = Runs.withTune(60, 1);
        Check.due("note(1, 128, 1)", x.note(1, 128, 1), TuneSearch.NONE);
        Check.due("note(1, 60, 0)", x.note(1, 60, 0), TuneSearch.NONE);
        Check.due("note(-1, -2, 65)", x.note(-1, -2, 65), TuneSearch.NONE);
    }

    private static void priceNoneBad() {
        TuneSearch x = new TuneSearch();
        Check.due("price(8, 1001)", x.price(8, 1001), TuneSearch.NONE);
        Check.due("price(-1, -1)", x.price(-1, -1), TuneSearch.NONE);
    }

    private static void distanceNoneBad() {
        TuneSearch x = Runs.withTune(60, 1);
        Check.due("distance(1, 0, 25)", x.distance(1, 0, 25), TuneSearch.NONE);
        Check.due("distance(0, 1, -25)", x.distance(0, 1, -25), TuneSearch.NONE);
        Check.due("distance(-1, -1, 25)", x.distance(-1, -1, 25), TuneSearch.NONE);
    }

    private static void noteNoneFull() {
        TuneSearch x = Runs.full(60, 1);
        Check.due("note(8, 60, 1)", x.note(8, 60, 1), TuneSearch.NONE);
        Check.due("note(-1, 60, 1)", x.note(-1, 60, 1), TuneSearch.NONE);
    }

    private static void noteBadFull() {
        TuneSearch x = fullOfNotes();
        Check.due("note(0, 128, 1)", x.note(0, 128, 1), TuneSearch.BAD);
        Check.due("note(0, -2, 1)", x.note(0, -2, 1), TuneSearch.BAD);
        Check.due("note(0, 60, 0)", x.note(0, 60, 0), TuneSearch.BAD);
        Check.due("note(0, 60, 65)", x.note(0, 60, 65), TuneSearch.BAD);
    }

    private static void queryBadFull() {
        TuneSearch x = fullOfQuery();
        Check.due("query(128, 1)", x.query(128, 1), TuneSearch.BAD);
        Check.due("query(-2, 1)", x.query(-2, 1), TuneSearch.BAD);
        Check.due("query(60, 0)", x.query(60, 0), TuneSearch.BAD);
        Check.due("query(60, 65)", x.query(60, 65), TuneSearch.BAD);
    }

    private static void typeBadFull() {
        TuneSearch x = fullOfBytes();
        Check.due("type(32, 0)", x.type(32L, 0), TuneSearch.BAD);
        Check.due("type(32, 9)", x.type(32L, 9), TuneSearch.BAD);
        Check.due("type(32, MAX)", x.type(32L, Integer.MAX_VALUE), TuneSearch.BAD);
    }
}
