/** Promise 10: find. */
public final class FindTest {
    private static final int[] BELOW = {-1, -2, Integer.MIN_VALUE};
    private static final int[] ABOVE = {5, 6, Integer.MAX_VALUE};

    public static void main(String[] args) {
        Check.sentence("all places in a VIEW: the first, one between, the last", FindTest::allPlaces);
        Check.sentence("all places: of rows that lie over one another", FindTest::overlapping);
        Check.sentence("all places: of rows that run to the end, not beyond", FindTest::toTheEnd);
        Check.sentence("all places: rows of 24 SIGNS, and of more", FindTest::wholeTunes);
        Check.sentence("all places: by a word of 50 atoms", FindTest::fiftyAtoms);
        Check.sentence("in a VIEW: each of 0 .. 4", FindTest::eachView);
        Check.sentence("in a VIEW: SIGNS of these NOTES now", FindTest::asOfNow);
        Check.sentence("of all TUNES: the first and the 8th", FindTest::allTunes);
        Check.sentence("of all TUNES: rows do not go on in the next one", FindTest::notOver);
        Check.sentence("of all TUNES: empty ones between", FindTest::emptyTunes);
        Check.sentence("of all TUNES: there is none", FindTest::noTunes);
        Check.sentence("a row of one SIGN or more: one", FindTest::oneSign);
        Check.sentence("a row of one SIGN or more: not of none", FindTest::noSign);
        Check.sentence("by TUNES, then places", FindTest::order);
        Check.sentence("how many: none", FindTest::countNone);
        Check.sentence("how many: the most there can be", FindTest::countMost);
        Check.sentence("FOUND are: those alone, not what was FOUND before", FindTest::replaces);
        Check.sentence("FOUND are: those alone, when there are none", FindTest::replacesByNone);
        Check.sentence("BAD: view is below 0", FindTest::viewTooSmall);
        Check.sentence("BAD: view is above 4", FindTest::viewTooLarge);
        Check.sentence("BAD: view is not 0 .. 4: without a word, too", FindTest::badWithoutWord);
        Check.sentence("BAD: what was FOUND stays", FindTest::badLeavesFound);
        Check.sentence("without a word none is FOUND", FindTest::withoutWord);
        Check.sentence("without a word none is FOUND: behind a near()", FindTest::withoutWordBehindNear);
        Check.end();
    }

    /** 60 62 62 rest 60 127 0, lengths 2 1 1 4 4 8 2. */
    private static TuneSearch withSeven() {
        return Runs.withTune(60, 2, 62, 1, 62, 1, -1, 4, 60, 4, 127, 8, 0, 2);
    }

    private static void allPlaces() {
        TuneSearch x = Runs.withTune(60, 1, 61, 1, 60, 1, 61, 1, 60, 1);
        Words.dueFinds(x, "60", 0, "0:1 2:1 4:1");
        Words.dueFinds(x, "60|61", 0, "0:1 1:1 2:1 3:1 4:1");
        Words.dueFinds(x, "61 60", 0, "1:2 3:2");
    }

    private static void overlapping() {
        TuneSearch x = Runs.withTune(60, 1, 60, 1, 60, 1, 60, 1);
        Words.dueFinds(x, "60 60", 0, "0:2 1:2 2:2");
        Words.dueFinds(x, "60+", 0, "0:4 1:3 2:2 3:1");
    }

    private static void toTheEnd() {
        TuneSearch x = withSeven();
        Words.dueFinds(x, "127 0", 0, "5:2");
        Words.dueFinds(x, "127 0 .", 0, "");
        Words.dueFinds(x, ".+", 0, "0:3 1:2 2:1 4:3 5:2 6:1");
        Words.dueFinds(x, "0 0", 0, "");
    }

    private static void wholeTunes() {
        TuneSearch x = Runs.withTune();
        Runs.fill(x, 0, 24, 60, 1);
        Words.dueFinds(x, ".".repeat(24), 0, "0:24");
        Words.dueFinds(x, ".".repeat(25), 0, "");
        Words.dueFinds(x, "0" + " 0".repeat(22), 1, "0:23");
        Words.dueFinds(x, "0" + " 0".repeat(23), 1, "");
    }

    private static void fiftyAtoms() {
        TuneSearch x = Runs.withTune(60, 1, 61, 1, 60, 1);
        Words.dueFinds(x, "60?".repeat(25) + "61?".repeat(25), 0, "0:2 1:1 2:1");
        Words.dueFinds(x, "1|".repeat(49) + "61", 0, "1:1");
    }

    private static void eachView() {
        TuneSearch x = withSeven();
        Words.dueFinds(x, "60 62", 0, "0:2");
        Words.dueFinds(x, "2 0 r r 67 -127", 1, "0:6");
        Words.dueFinds(x, "1 0 r r 1 -1", 2, "0:6");
        Words.dueFinds(x, "2 1 1 4 4 8 2", 3, "0:7");
        Words.dueFinds(x, "-1 0 1 0 1 -1", 4, "0:6");
    }

    private static void asOfNow() {
        TuneSearch x = Runs.withTune(60, 1);
        Words.dueFinds(x, "60", 0, "0:1");
        x.note(0, 60, 1);
        x.find(0);
        Check.due("places behind one more note", Runs.found(x, 1), "0 1");
    }

    private static void allTunes() {
        TuneSearch x = new TuneSearch();
        for (int t = 0; t < 8; t++) {
            Runs.tune(x, 60 + t % 7, 1);
        }
        Runs.word(x, "60");
        x.find(0);
        Check.due("tunes", Runs.found(x, 0), "0 7");
    }

    private static void notOver() {
        TuneSearch x = Runs.withTune(60, 1, 61, 1);
        Runs.tune(x, 62, 1, 63, 1);
        Words.dueFinds(x, "61 62", 0, "");
        Words.dueFinds(x, "1 1", 1, "");
        Words.dueFinds(x, ".+", 0, "0:2 1:1 0:2 1:1");
    }

    private static void emptyTunes() {
        TuneSearch x = Runs.withTune();
        Runs.tune(x, 60, 1);
        Runs.tune(x);
        Runs.tune(x, 60, 1);
        Runs.word(x, "60*");
        x.find(0);
        Check.due("tunes", Runs.found(x, 0), "1 3");
    }

    private static void noTunes() {
        TuneSearch x = new TuneSearch();
        Runs.word(x, ".*");
        for (int view = 0; view < 5; view++) {
            Check.due("find(" + view + ")", x.find(view), 0);
        }
    }

    private static void oneSign() {
        Words.dueFinds(Runs.withTune(60, 1), "60", 0, "0:1");
        Words.dueFinds(Runs.withTune(60, 1), "60*", 0, "0:1");
        Words.dueFinds(Runs.withTune(60, 1, 60, 1), "0?", 2, "0:1");
    }

    private static void noSign() {
        TuneSearch x = withSeven();
        String[] texts = {"", "()", "()*", "1*", "1?", "|", "(|1)", "(1*)+"};
        for (String text : texts) {
            Words.dueFinds(x, text, 0, "");
        }
    }

    private static void order() {
        TuneSearch x = Runs.withTune(60, 1, 61, 1, 60, 1);
        Runs.tune(x, 61, 1);
        Runs.tune(x, 61, 1, 60, 1, 60, 1);
        Runs.word(x, "60+");
        x.find(0);
        Check.due("tunes", Runs.found(x, 0), "0 0 2 2");
        Check.due("places", Runs.found(x, 1), "0 2 1 2");
    }

    private static void countNone() {
        TuneSearch x = withSeven();
        Runs.word(x, "61");
        Check.due("find(0)", x.find(0), 0);
        Check.due("told(4)", x.told(4), 0);
    }

    private static void countMost() {
        TuneSearch x = Runs.full(60, 1);
        Runs.word(x, ".*");
        int[] counts = {192, 184, 184, 192, 184};
        for (int view = 0; view < 5; view++) {
            Check.due("find(" + view + ")", x.find(view), counts[view]);
            Check.due("told(4)", x.told(4), counts[view]);
            int last = counts[view] - 1;
            Check.due("the last one's tune", x.found(last, 0), 7);
            Check.due("the last one's place", x.found(last, 1), counts[view] / 8 - 1);
        }
    }

    private static void replaces() {
        TuneSearch x = withSeven();
        Words.dueFinds(x, "60|62", 0, "0:1 1:1 2:1 4:1");
        Words.dueFinds(x, "127", 0, "5:1");
        x.near(Integer.MAX_VALUE, 0);
        Words.dueFinds(x, "62", 0, "1:1 2:1");
    }

    private static void replacesByNone() {
        TuneSearch x = withSeven();
        Words.dueFinds(x, "60", 0, "0:1 4:1");
        Words.dueFinds(x, "61", 0, "");
        Check.due("told(4)", x.told(4), 0);
        Check.dueThrow("found(0, 0)", () -> x.found(0, 0), IndexOutOfBoundsException.class);
    }

    private static void viewTooSmall() {
        TuneSearch x = withSeven();
        Runs.word(x, ".");
        for (int view : BELOW) {
            Check.due("find(" + view + ")", x.find(view), TuneSearch.BAD);
        }
    }

    private static void viewTooLarge() {
        TuneSearch x = withSeven();
        Runs.word(x, ".");
        for (int view : ABOVE) {
            Check.due("find(" + view + ")", x.find(view), TuneSearch.BAD);
        }
    }

    private static void badWithoutWord() {
        TuneSearch x = withSeven();
        Check.due("find(-1)", x.find(-1), TuneSearch.BAD);
        Check.due("find(5)", x.find(5), TuneSearch.BAD);
        Check.due("find(5) without tunes", new TuneSearch().find(5), TuneSearch.BAD);
    }

    private static void badLeavesFound() {
        TuneSearch x = withSeven();
        Words.dueFinds(x, "60", 0, "0:1 4:1");
        x.find(-1);
        x.find(5);
        Check.due("told(4)", x.told(4), 2);
        Check.due("places", Runs.found(x, 1), "0 4");
    }

    private static void withoutWord() {
        TuneSearch x = withSeven();
        for (int view = 0; view < 5; view++) {
            Check.due("find(" + view + ")", x.find(view), 0);
        }
    }

    private static void withoutWordBehindNear() {
        TuneSearch x = withSeven();
        Check.due("near(0, 0)", x.near(0, 0), 8);
        Check.due("find(0)", x.find(0), 0);
        Check.due("told(4)", x.told(4), 0);
    }
}
