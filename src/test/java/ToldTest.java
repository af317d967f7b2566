/** Promise 18: told. */
public final class ToldTest {
    public static void main(String[] args) {
        Check.sentence("0 TUNES: none, one, 8", ToldTest::tunes);
        Check.sentence("1 NOTES of all: none, some", ToldTest::notes);
        Check.sentence("1 NOTES of all: RESTS are NOTES of a row, too", ToldTest::rests);
        Check.sentence("1 NOTES of all: those of THE QUERY are not", ToldTest::notTheQuery);
        Check.sentence("1 NOTES of all: 192", ToldTest::allNotes);
        Check.sentence("2 NOTES of THE QUERY: none, 12", ToldTest::query);
        Check.sentence("2 NOTES of THE QUERY: behind forget()", ToldTest::queryForgotten);
        Check.sentence("3 bytes on the tape: none, 160", ToldTest::bytes);
        Check.sentence("3 bytes on the tape: behind word()", ToldTest::bytesBehindWord);
        Check.sentence("4 FOUND: before any search", ToldTest::foundAtFirst);
        Check.sentence("4 FOUND: behind find()", ToldTest::foundByFind);
        Check.sentence("4 FOUND: behind near()", ToldTest::foundByNear);
        Check.sentence("4 FOUND: behind a BAD find() or near()", ToldTest::foundBehindBad);
        Check.sentence("BAD: below 0", ToldTest::below);
        Check.sentence("BAD: above 4", ToldTest::above);
        Check.end();
    }

    private static void tunes() {
        TuneSearch x = new TuneSearch();
        for (int t = 0; t <= 8; t++) {
            Check.due("told(0)", x.told(0), t);
            x.tune();
        }
        Check.due("told(0) behind a 9th", x.told(0), 8);
    }

    private static void notes() {
        TuneSearch x = Runs.withTune();
        Check.due("told(1)", x.told(1), 0);
        Runs.tune(x, 60, 1, 61, 64);
        Runs.tune(x, 61, 1);
        Check.due("told(1)", x.told(1), 3);
    }

    private static void rests() {
        TuneSearch x = Runs.withTune(60, 1, -1, 2, -1, 3);
        Check.due("told(1)", x.told(1), 3);
        Check.due("note() told the same", x.note(0, -1, 1), 4);
        Check.due("told(1)", x.told(1), 4);
    }

    private static void notTheQuery() {
        TuneSearch x = Runs.withTune(60, 1);
        Runs.query(x, 60, 1, 61, 1, 62, 1);
        Check.due("told(1)", x.told(1), 1);
    }

    private static void allNotes() {
        Check.due("told(1)", Runs.full(60, 1).told(1), 192);
    }

    private static void query() {
        TuneSearch x = Runs.withTune(60, 1);
        for (int n = 0; n <= 12; n++) {
            Check.due("told(2)", x.told(2), n);
            x.query(n % 2 == 0 ? -1 : 60, 1);
        }
        Check.due("told(2) behind a 13th", x.told(2), 12);
    }

    private static void queryForgotten() {
        TuneSearch x = new TuneSearch();
        Runs.query(x, 60, 1, 61, 1);
        x.forget();
        Check.due("told(2)", x.told(2), 0);
    }

    private static void bytes() {
        TuneSearch x = new TuneSearch();
        Check.due("told(3)", x.told(3), 0);
        x.type(0L, 3);
        Check.due("told(3)", x.told(3), 3);
        Runs.typeText(x, " ".repeat(157));
        Check.due("told(3)", x.told(3), 160);
        x.type(0L, 1);
        Check.due("told(3) behind a 161st", x.told(3), 160);
    }

    private static void bytesBehindWord() {
        TuneSearch x = new TuneSearch();
        Runs.word(x, "60|61");
        Check.due("told(3)", x.told(3), 0);
        Runs.word(x, "60|61(");
        Check.due("told(3) behind a fault", x.told(3), 0);
    }

    private static void foundAtFirst() {
        TuneSearch x = Runs.withTune(60, 1);
        Runs.word(x, "60");
        Check.due("told(4)", x.told(4), 0);
    }

    private static void foundByFind() {
        TuneSearch x = Runs.withTune(60, 1, 61, 1, 60, 1);
        Runs.word(x, "60");
        x.find(0);
        Check.due("told(4)", x.told(4), 2);
        x.find(1);
        Check.due("told(4)", x.told(4), 0);
    }

    private static void foundByNear() {
        TuneSearch x = Runs.withTune(60, 1, 61, 1);
        x.near(0, 0);
        Check.due("told(4)", x.told(4), 3);
        x.query(60, 1);
        x.near(0, 0);
        Check.due("told(4)", x.told(4), 1);
    }

    private static void foundBehindBad() {
        TuneSearch x = Runs.withTune(60, 1, 61, 1);
        x.near(0, 0);
        x.near(-1, 0);
        Check.due("told(4)", x.told(4), 3);
        x.find(5);
        Check.due("told(4)", x.told(4), 3);
    }

    private static void below() {
        TuneSearch x = Runs.withTune(60, 1);
        int[] bad = {-1, -2, -3, Integer.MIN_VALUE};
        for (int what : bad) {
            Check.due("told(" + what + ")", x.told(what), TuneSearch.BAD);
        }
    }

    private static void above() {
        TuneSearch x = Runs.withTune(60, 1);
        int[] bad = {5, 6, Integer.MAX_VALUE};
        for (int what : bad) {
            Check.due("told(" + what + ")", x.told(what), TuneSearch.BAD);
        }
    }
}
