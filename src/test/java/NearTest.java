/** Promises 11 and 12: near, and found behind it. */
public final class NearTest {
    public static void main(String[] args) {
        emptyQuery();
        endsAndPlaces();
        byCostsThenTunesThenEnds();
        nearestShift();
        lastPlace();
        mostIsKept();
        dearest();
        badAndKept();
        Check.end();
    }

    private static void emptyQuery() {
        TuneSearch x = new TuneSearch();
        Runs.tune(x, 60, 1, 61, 1);
        Runs.tune(x);
        Check.due("near(0, 3)", x.near(0, 3), 4);
        Check.due("each end, from itself", Runs.found(x), "0:0:0:0:0 0:1:1:0:0 0:2:2:0:0 1:0:0:0:0");
    }

    private static void endsAndPlaces() {
        TuneSearch x = new TuneSearch();
        Runs.tune(x, 50, 9, 60, 1, 60, 1, 64, 2, 30, 9);
        Runs.query(x, 60, 2, 64, 2);
        for (int k = 0; k < 5; k++) {
            x.price(k, 10);
        }
        Check.due("near(0, 0)", x.near(0, 0), 1);
        Check.due("the split note", Runs.found(x), "0:1:4:0:0");
        // Before the first note: the query's four units of length alone. Behind 50: likewise, from that place.
        Check.due("near(40, 0)", x.near(40, 0), 6);
        Check.due("the first end's cost", costAt(x, 0), 40);
        Check.due("behind 50", costAt(x, 1), 40);
        Check.due("behind the first 60", costAt(x, 2), 30);
        Check.due("behind both", costAt(x, 3), 20);
        Check.due("behind 64", costAt(x, 4), 0);
        Check.due("behind 30", costAt(x, 5), 40);
    }

    /** The cost at this end of tune 0, -1 if it was not found. */
    private static int costAt(TuneSearch x, int end) {
        for (int k = 0; k < x.told(4); k++) {
            if (x.found(k, 0) == 0 && x.found(k, 2) == end) {
                return x.found(k, 3);
            }
        }
        return -1;
    }

    private static void byCostsThenTunesThenEnds() {
        TuneSearch x = new TuneSearch();
        Runs.tune(x, 61, 1, 60, 1);
        Runs.tune(x, 60, 1, 63, 1, 60, 1);
        Runs.tune(x, 61, 1);
        Runs.query(x, 60, 1);
        x.price(2, 3);
        Check.due("near(3, 0)", x.near(3, 0), 9);
        Check.due("found", Runs.found(x), "0:1:2:0:0 1:0:1:0:0 1:2:3:0:0 0:0:1:1:0 1:0:2:1:0 2:0:1:1:0"
            + " 0:0:0:3:0 1:0:0:3:0 2:0:0:3:0");
    }

    private static void nearestShift() {
        TuneSearch x = new TuneSearch();
        Runs.tune(x, 60, 1, 64, 1, 62, 1);
        for (int k = 0; k < 5; k++) {
            x.price(k, 100);
        }
        Runs.query(x, 62, 1);
        x.near(0, 24);
        // 62 is 60 by -2, 64 by 2, 62 by 0; before the first note it costs 100.
        Check.due("near(0, 24)", Runs.found(x), "0:0:1:0:-2 0:1:2:0:2 0:2:3:0:0");
        x.near(100, 1);
        // 62 by -1 with 60 costs 100, like 62 alone by 0: the shift that is nearer to 0, and the last place.
        Check.due("near(100, 1)", Runs.found(x), "0:2:3:0:0 0:0:0:100:0 0:1:1:100:0 0:2:2:100:0");
        x.price(0, 0);
        x.near(0, 24);
        Check.due("when pitches cost nothing", Runs.found(x), "0:0:1:0:0 0:1:2:0:0 0:2:3:0:0");
        TuneSearch y = new TuneSearch();
        for (int k = 1; k < 5; k++) {
            y.price(k, 1000);
        }
        Runs.tune(y, 60, 1, 64, 1);
        Runs.query(y, 62, 1, 62, 1);
        y.near(10, 24);
        // 62 62 to 60 64 costs 4 by every shift from -2 to 2: 0 is nearest.
        Check.due("of like costs the shift nearest to 0", Runs.found(y), "0:0:2:4:0");
        Runs.query(y, 61, 1, 63, 1);
        y.near(10, 24);
        Check.due("2 by -1, 0 and 1", Runs.found(y), "0:0:2:2:0");
        TuneSearch z = new TuneSearch();
        Runs.tune(z, 60, 2, 64, 1);
        for (int k = 1; k < 5; k++) {
            z.price(k, 1000);
        }
        Runs.query(z, 62, 2);
        z.price(3, 0);
        z.near(0, 24);
        // The end behind 64: 60 by -2 with 64 alone for nothing, and 64 by 2 with a length that differs.
        Check.due("behind both", Runs.found(z), "0:0:1:0:-2 0:0:2:0:-2");
        z.note(0, 64, 2);
        z.near(0, 24);
        Check.due("of two like ones the shift below 0, though its place is before",
            Runs.found(z), "0:0:1:0:-2 0:0:2:0:-2 0:0:3:0:-2");
    }

    private static void lastPlace() {
        TuneSearch x = new TuneSearch();
        Runs.tune(x, 60, 1, 70, 1, 60, 1, 70, 1, 70, 1);
        Runs.query(x, 60, 1);
        x.price(3, 0);
        x.near(0, 0);
        Check.due("from the last place", Runs.found(x), "0:0:1:0:0 0:0:2:0:0 0:2:3:0:0 0:2:4:0:0 0:2:5:0:0");
        x.price(2, 0);
        x.near(0, 2);
        Check.due("all for nothing: from each end", Runs.found(x),
            "0:0:0:0:0 0:1:1:0:0 0:2:2:0:0 0:3:3:0:0 0:4:4:0:0 0:5:5:0:0");
    }

    private static void mostIsKept() {
        TuneSearch x = new TuneSearch();
        Runs.tune(x, 60, 4);
        Runs.query(x, 65, 4);
        x.price(2, 2);
        Check.due("near(4, 0)", x.near(4, 0), 0);
        Check.due("near(5, 0)", x.near(5, 0), 1);
        Check.due("near(7, 0)", x.near(7, 0), 1);
        Check.due("near(8, 0)", x.near(8, 0), 2);
        Check.due("near(0, 4)", x.near(0, 4), 0);
        Check.due("near(0, 5)", x.near(0, 5), 1);
        Check.due("its shift", x.found(0, 4), -5);
        Check.due("near(MAX, 24)", x.near(Integer.MAX_VALUE, 24), 2);
    }

    private static void dearest() {
        TuneSearch x = new TuneSearch();
        for (int k = 0; k < 8; k++) {
            x.price(k, 1000);
        }
        for (int n = 0; n < 12; n++) {
            x.query(127, 64);
        }
        for (int t = 0; t < 8; t++) {
            x.tune();
            for (int n = 0; n < 24; n++) {
                x.note(t, 0, 64);
            }
        }
        Check.due("near(MAX, 24)", x.near(Integer.MAX_VALUE, 24), 200);
        Check.due("near(767999, 0)", x.near(767999, 0), 0);
        Check.due("near(768000, 0)", x.near(768000, 0), 200);
        Check.due("the cost of none taken together", x.found(0, 3), 768000);
        Check.due("the last one's tune", x.found(199, 0), 7);
        Check.due("the last one's end", x.found(199, 2), 24);
        Check.due("the last one's place", x.found(199, 1), 24);
    }

    private static void badAndKept() {
        TuneSearch x = new TuneSearch();
        Runs.tune(x, 60, 1);
        Runs.query(x, 61, 1);
        x.near(0, 1);
        int[][] bad = {{-1, 0}, {Integer.MIN_VALUE, 0}, {0, -1}, {0, 25}, {0, Integer.MIN_VALUE},
            {0, Integer.MAX_VALUE}, {-1, 25}};
        for (int[] pair : bad) {
            Check.due("near(" + pair[0] + ", " + pair[1] + ")", x.near(pair[0], pair[1]), TuneSearch.BAD);
        }
        x.note(0, 60, 1);
        x.forget();
        x.price(0, 9);
        Check.due("found() is of the latest near()", Runs.found(x), "0:0:1:0:-1");
        Check.dueThrow("found(1, 0)", () -> x.found(1, 0), IndexOutOfBoundsException.class);
        Check.dueThrow("found(0, 5)", () -> x.found(0, 5), IndexOutOfBoundsException.class);
        Check.dueThrow("found(-1, 0)", () -> x.found(-1, 0), IndexOutOfBoundsException.class);
        Check.dueThrow("found(0, -1)", () -> x.found(0, -1), IndexOutOfBoundsException.class);
        Check.due("find(0) without a word", x.find(0), 0);
        Check.dueThrow("found(0, 0) then", () -> x.found(0, 0), IndexOutOfBoundsException.class);
    }
}
