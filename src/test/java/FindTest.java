/** Promises 10 and 12: find, and found behind it. */
public final class FindTest {
    public static void main(String[] args) {
        views();
        atoms();
        repeats();
        longestRows();
        tunesThenPlaces();
        badViewsAndNoWord();
        foundIsKept();
        foundOutside();
        Check.end();
    }

    /** The tune that most cases look at: 60 62 62 rest 60 127 0, lengths 2 1 1 4 4 8 2. */
    private static TuneSearch withTune() {
        TuneSearch x = new TuneSearch();
        Runs.tune(x, 60, 2, 62, 1, 62, 1, -1, 4, 60, 4, 127, 8, 0, 2);
        return x;
    }

    /** The places of finds, each with its longest row: place:size. */
    private static void dueFinds(TuneSearch x, String text, int view, String want) {
        Runs.word(x, text);
        int count = x.find(view);
        StringBuilder s = new StringBuilder();
        for (int k = 0; k < count; k++) {
            s.append(k == 0 ? "" : " ").append(x.found(k, 1)).append(':').append(x.found(k, 2));
        }
        Check.due("'" + text + "' in view " + view, s.toString(), want);
    }

    private static void views() {
        TuneSearch x = withTune();
        dueFinds(x, "60 62", 0, "0:2");
        dueFinds(x, "60", 0, "0:1 4:1");
        dueFinds(x, "-1", 0, "");
        dueFinds(x, "r", 0, "3:1");
        dueFinds(x, ".+", 0, "0:3 1:2 2:1 4:3 5:2 6:1");
        dueFinds(x, "2 0 r r 67 -127", 1, "0:6");
        dueFinds(x, "r+", 1, "2:2 3:1");
        dueFinds(x, "1 0 r r 1 -1", 2, "0:6");
        dueFinds(x, "-1", 2, "5:1");
        dueFinds(x, "2 1 1 4 4 8 2", 3, "0:7");
        dueFinds(x, "r", 3, "");
        dueFinds(x, "-1 0 1 0 1 -1", 4, "0:6");
        dueFinds(x, "r", 4, "");
        TuneSearch one = new TuneSearch();
        Runs.tune(one, 60, 5);
        Runs.tune(one);
        int[] counts = {1, 0, 0, 1, 0};
        for (int view = 0; view < 5; view++) {
            Runs.word(one, ".");
            Check.due("find(" + view + ") in one note", one.find(view), counts[view]);
        }
    }

    private static void atoms() {
        TuneSearch x = withTune();
        dueFinds(x, "[60,62]", 0, "0:1 1:1 2:1 4:1");
        dueFinds(x, "[61,127]", 0, "1:1 2:1 5:1");
        dueFinds(x, "[-999,999]", 0, "0:1 1:1 2:1 4:1 5:1 6:1");
        dueFinds(x, "[-5,-1]", 0, "");
        dueFinds(x, "0|127", 0, "5:1 6:1");
        dueFinds(x, "-0", 0, "6:1");
        dueFinds(x, "062", 0, "1:1 2:1");
        dueFinds(x, ". r", 0, "2:2");
        dueFinds(x, "(. | r)+", 0, "0:7 1:6 2:5 3:4 4:3 5:2 6:1");
    }

    private static void repeats() {
        TuneSearch x = withTune();
        dueFinds(x, "60 62*", 0, "0:3 4:1");
        dueFinds(x, "60 62+", 0, "0:3");
        dueFinds(x, "60 62?", 0, "0:2 4:1");
        dueFinds(x, "60? 62", 0, "0:2 1:1 2:1");
        dueFinds(x, "62* r", 0, "1:3 2:2 3:1");
        dueFinds(x, "(62|r)* 60", 0, "0:1 1:4 2:3 3:2 4:1");
        dueFinds(x, "(60|62 62)+", 0, "0:3 1:2 4:1");
        dueFinds(x, "(60 62? | r)* ", 0, "0:2 3:2 4:1");
        dueFinds(x, "((1*)* 2?)*", 3, "0:3 1:2 2:1 6:1");
        dueFinds(x, "(()|4)* 8", 3, "3:3 4:2 5:1");
        dueFinds(x, "(4 ()? 8)", 3, "4:2");
        dueFinds(x, "(1|)(1|)4", 3, "1:3 2:2 3:1 4:1");
        dueFinds(x, "(1 1)* 4", 3, "1:3 3:1 4:1");
        dueFinds(x, "(4|1)+ (8 2)?", 3, "1:6 2:5 3:4 4:3");
    }

    private static void longestRows() {
        TuneSearch x = withTune();
        dueFinds(x, "60|60 62|60 62 62 r", 0, "0:4 4:1");
        dueFinds(x, "60 62 62 r 60 127 127|60", 0, "0:1 4:1");
        dueFinds(x, "(|60)", 0, "0:1 4:1");
        dueFinds(x, "", 0, "");
        dueFinds(x, "()*", 0, "");
        dueFinds(x, "1*", 0, "");
    }

    private static void tunesThenPlaces() {
        TuneSearch x = new TuneSearch();
        Runs.tune(x, 60, 1, 61, 1, 60, 1);
        Runs.tune(x, 61, 1);
        Runs.tune(x, 61, 1, 60, 1, 60, 1);
        Runs.word(x, "60+");
        Check.due("find(0)", x.find(0), 4);
        Check.due("found", Runs.found(x), "0:0:1:0:0 0:2:1:0:0 2:1:2:0:0 2:2:1:0:0");
        TuneSearch full = new TuneSearch();
        for (int t = 0; t < 8; t++) {
            full.tune();
            for (int n = 0; n < 24; n++) {
                full.note(t, 60, 1);
            }
        }
        Runs.word(full, ".*");
        Check.due("find(0) in all that fits", full.find(0), 192);
        Check.due("told(4)", full.told(4), 192);
        Check.due("the last one's tune", full.found(191, 0), 7);
        Check.due("the last one's place", full.found(191, 1), 23);
        Check.due("the first one's size", full.found(0, 2), 24);
        Runs.word(full, "60?".repeat(50));
        Check.due("find(0) by 50 atoms", full.find(0), 192);
        Check.due("the first one's size", full.found(0, 2), 24);
        Runs.word(full, ".".repeat(24));
        Check.due("find(0) of whole tunes", full.find(0), 8);
        Runs.word(full, ".".repeat(25));
        Check.due("find(0) of more", full.find(0), 0);
    }

    private static void badViewsAndNoWord() {
        TuneSearch x = withTune();
        int[] bad = {-1, 5, Integer.MIN_VALUE, Integer.MAX_VALUE};
        for (int view : bad) {
            Check.due("find(" + view + ") without a word", x.find(view), TuneSearch.BAD);
        }
        Check.due("find(0) without a word", x.find(0), 0);
        Runs.word(x, "60");
        x.find(0);
        for (int view : bad) {
            Check.due("find(" + view + ")", x.find(view), TuneSearch.BAD);
            Check.due("told(4) behind it", x.told(4), 2);
            Check.due("found(1, 1) behind it", x.found(1, 1), 4);
        }
        TuneSearch y = withTune();
        y.near(1000, 0);
        Check.due("find(0) without a word behind a near()", y.find(0), 0);
        Check.due("told(4) then", y.told(4), 0);
    }

    private static void foundIsKept() {
        TuneSearch x = withTune();
        Runs.word(x, "60");
        x.find(0);
        x.note(0, 60, 1);
        Runs.word(x, "62");
        x.tune();
        Check.due("found() is of the latest find()", Runs.found(x), "0:0:1:0:0 0:4:1:0:0");
    }

    private static void foundOutside() {
        TuneSearch x = withTune();
        Runs.word(x, "60");
        x.find(0);
        int[][] none = {{-1, 0}, {2, 0}, {0, -1}, {0, 5}, {Integer.MAX_VALUE, 0}, {Integer.MIN_VALUE, 0},
            {0, Integer.MAX_VALUE}, {0, Integer.MIN_VALUE}};
        for (int[] pair : none) {
            Check.dueThrow("found(" + pair[0] + ", " + pair[1] + ")", () -> x.found(pair[0], pair[1]),
                IndexOutOfBoundsException.class);
        }
    }
}
