/** Reads all that can be seen of an object, so that two of them can be compared. It uses the object up. */
final class Probe {
    private static final int MOST = Integer.MAX_VALUE;

    private final TuneSearch x;
    private final StringBuilder seen = new StringBuilder();

    private Probe(TuneSearch x) {
        this.x = x;
    }

    static String read(TuneSearch x) {
        Probe p = new Probe(x);
        p.readCountsAndResults();
        p.readPrices();
        p.readTunes();
        p.readWordThenTape();
        p.readQuery();
        p.readRoom();
        return p.seen.toString();
    }

    private void add(String name, String value) {
        seen.append(name).append(' ').append(value).append("; ");
    }

    private void add(String name, long value) {
        add(name, Long.toString(value));
    }

    private void readCountsAndResults() {
        for (int what = 0; what < 5; what++) {
            add("told " + what, x.told(what));
        }
        add("fault", x.fault());
        add("families", Runs.families(x));
        add("found", Runs.found(x));
    }

    private void readPrices() {
        for (int k = 0; k < 8; k++) {
            int was = x.price(k, 1);
            x.price(k, was);
            add("price " + k, was);
        }
    }

    private void readTunes() {
        for (int t = 0; t < x.told(0); t++) {
            add("freight " + t, x.freight(0, t));
            add("distance " + t, x.distance(t, 0, 5));
        }
    }

    private void readWordThenTape() {
        readFinds("word");
        add("tape's word", x.word());
        add("tape's fault", x.fault());
        readFinds("tape");
    }

    private void readFinds(String name) {
        x.find(0);
        add(name + " by pitches", Runs.found(x, 1) + "/" + Runs.found(x, 2));
        x.find(3);
        add(name + " by lengths", Runs.found(x, 1) + "/" + Runs.found(x, 2));
    }

    private void readQuery() {
        x.near(MOST, 2);
        add("near", Runs.found(x, 2) + "/" + Runs.found(x, 3));
        add("forget", x.forget());
    }

    private void readRoom() {
        for (int t = 0; t < x.told(0); t++) {
            add("note " + t, x.note(t, 60, 1));
        }
        add("query", x.query(60, 1));
        add("tune", x.tune());
    }
}
