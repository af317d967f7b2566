/** Promises 1 to 6: a new object, tune, note, query, forget, price. */
public final class TunesTest {
    public static void main(String[] args) {
        newObject();
        tunes();
        notes();
        query();
        prices();
        Check.end();
    }

    private static void newObject() {
        TuneSearch x = new TuneSearch();
        for (int what = 0; what < 5; what++) {
            Check.due("told(" + what + ") of a new object", x.told(what), 0);
        }
        Check.due("fault() of a new object", x.fault(), 0);
        Check.due("forget() of a new object", x.forget(), 0);
        Check.due("family(0) of a new object", x.family(0), TuneSearch.NONE);
        Check.due("families(0) of a new object", x.families(0), 0);
        Check.due("near(0, 0) of a new object", x.near(0, 0), 0);
        Runs.tune(x, 60, 1);
        Check.due("find(0) without a word", x.find(0), 0);
        for (int k = 0; k < 8; k++) {
            Check.due("price(" + k + ", 1) at first", x.price(k, 1), 1);
        }
        Check.dueThrow("found(0, 0) of a new object", () -> new TuneSearch().found(0, 0),
            IndexOutOfBoundsException.class);
    }

    private static void tunes() {
        TuneSearch x = new TuneSearch();
        for (int t = 0; t < 8; t++) {
            Check.due("tune()", x.tune(), t);
        }
        Check.due("the ninth tune()", x.tune(), TuneSearch.FULL);
        Check.due("told(0) behind it", x.told(0), 8);
    }

    private static void notes() {
        TuneSearch x = new TuneSearch();
        Check.due("note(0, ..) of no tune", x.note(0, 60, 1), TuneSearch.NONE);
        Check.due("note(0, bad) of no tune", x.note(0, -2, 0), TuneSearch.NONE);
        x.tune();
        Check.due("note(-1, ..)", x.note(-1, 60, 1), TuneSearch.NONE);
        Check.due("note(1, ..)", x.note(1, 60, 1), TuneSearch.NONE);
        Check.due("note(MAX, ..)", x.note(Integer.MAX_VALUE, 60, 1), TuneSearch.NONE);
        Check.due("note(MIN, ..)", x.note(Integer.MIN_VALUE, 60, 1), TuneSearch.NONE);
        int[] pitches = {-2, 128, Integer.MIN_VALUE, Integer.MAX_VALUE};
        for (int pitch : pitches) {
            Check.due("note(0, " + pitch + ", 1)", x.note(0, pitch, 1), TuneSearch.BAD);
        }
        int[] lengths = {0, 65, -1, Integer.MIN_VALUE, Integer.MAX_VALUE};
        for (int length : lengths) {
            Check.due("note(0, 60, " + length + ")", x.note(0, 60, length), TuneSearch.BAD);
        }
        Check.due("notes behind all that", x.told(1), 0);
        Check.due("note(0, 0, 1)", x.note(0, 0, 1), 1);
        Check.due("note(0, 127, 64)", x.note(0, 127, 64), 2);
        Check.due("note(0, -1, 64)", x.note(0, -1, 64), 3);
        for (int n = 4; n <= 24; n++) {
            Check.due("note(0, 60, 1)", x.note(0, 60, 1), n);
        }
        Check.due("the 25th note", x.note(0, 60, 1), TuneSearch.FULL);
        Check.due("the 25th note, a bad one", x.note(0, 60, 0), TuneSearch.BAD);
        Check.due("a note of another tune", x.note(x.tune(), 60, 1), 1);
        Check.due("told(1)", x.told(1), 25);
    }

    private static void query() {
        TuneSearch x = new TuneSearch();
        Check.due("query(-2, 1)", x.query(-2, 1), TuneSearch.BAD);
        Check.due("query(128, 1)", x.query(128, 1), TuneSearch.BAD);
        Check.due("query(60, 0)", x.query(60, 0), TuneSearch.BAD);
        Check.due("query(60, 65)", x.query(60, 65), TuneSearch.BAD);
        Check.due("query(-1, 64)", x.query(-1, 64), 1);
        for (int n = 2; n <= 12; n++) {
            Check.due("query(127, 1)", x.query(127, 1), n);
        }
        Check.due("the 13th", x.query(60, 1), TuneSearch.FULL);
        Check.due("the 13th, a bad one", x.query(60, 65), TuneSearch.BAD);
        Check.due("told(2)", x.told(2), 12);
        Check.due("told(1), of tunes alone", x.told(1), 0);
        Check.due("forget()", x.forget(), 12);
        Check.due("told(2) then", x.told(2), 0);
        Check.due("forget() again", x.forget(), 0);
        Check.due("query(0, 1) then", x.query(0, 1), 1);
    }

    private static void prices() {
        TuneSearch x = new TuneSearch();
        int[] none = {-1, 8, Integer.MIN_VALUE, Integer.MAX_VALUE};
        for (int k : none) {
            Check.due("price(" + k + ", 1)", x.price(k, 1), TuneSearch.NONE);
            Check.due("price(" + k + ", -1)", x.price(k, -1), TuneSearch.NONE);
        }
        for (int k = 0; k < 8; k++) {
            Check.due("price(" + k + ", -1)", x.price(k, -1), TuneSearch.BAD);
            Check.due("price(" + k + ", 1001)", x.price(k, 1001), TuneSearch.BAD);
            Check.due("price(" + k + ", 1000)", x.price(k, 1000), 1);
            Check.due("price(" + k + ", 0)", x.price(k, 0), 1000);
            Check.due("price(" + k + ", k)", x.price(k, k), 0);
        }
        for (int k = 0; k < 8; k++) {
            Check.due("price(" + k + ", 1) then", x.price(k, 1), k);
        }
    }
}
