/** Terms, 2 WORDS: the views, a test for each sentence. */
public final class TermsViewsTest {
    public static void main(String[] args) {
        Check.sentence("VIEW 0 the PITCHES", TermsViewsTest::pitches);
        Check.sentence("VIEW 0 the PITCHES: least and greatest", TermsViewsTest::pitchEnds);
        Check.sentence("1 of each NOTE .. its PITCH less that of the one before", TermsViewsTest::intervals);
        Check.sentence("1 of each .. its PITCH less ..: least and greatest", TermsViewsTest::intervalEnds);
        Check.sentence("2 .. 1 as this is above 0", TermsViewsTest::turnAbove);
        Check.sentence("2 .. 0 as this is 0", TermsViewsTest::turnNought);
        Check.sentence("2 .. -1 as this is below", TermsViewsTest::turnBelow);
        Check.sentence("3 the LENGTHS", TermsViewsTest::lengths);
        Check.sentence("3 the LENGTHS: least and greatest", TermsViewsTest::lengthEnds);
        Check.sentence("4 .. 1 as its LENGTH is above that of the one before", TermsViewsTest::lengthAbove);
        Check.sentence("4 .. 0 as its LENGTH is like it", TermsViewsTest::lengthLike);
        Check.sentence("4 .. -1 as its LENGTH is below", TermsViewsTest::lengthBelow);
        Check.sentence("1, 2, 4 of each NOTE but the first: of one NOTE", TermsViewsTest::oneNote);
        Check.sentence("VIEWS 0 and 3: of one NOTE", TermsViewsTest::oneNoteSeen);
        Check.sentence("a row of SIGNS: of no NOTES", TermsViewsTest::noNotes);
        Check.sentence("a row of SIGNS: of 24 NOTES", TermsViewsTest::allNotes);
        Check.sentence("In VIEW 0 the SIGN is R where this NOTE is a REST", TermsViewsTest::restInView0);
        Check.sentence("In VIEW 1 the SIGN is R where one is a REST", TermsViewsTest::restInView1);
        Check.sentence("In VIEW 2 the SIGN is R where one is a REST", TermsViewsTest::restInView2);
        Check.sentence("VIEWS 0 to 2 .. R where .. a REST: two RESTS, too", TermsViewsTest::twoRests);
        Check.sentence("VIEWS 0 to 2 .. R: none in VIEW 3", TermsViewsTest::restInView3);
        Check.sentence("VIEWS 0 to 2 .. R: none in VIEW 4", TermsViewsTest::restInView4);
        Check.end();
    }

    private static void pitches() {
        Words.dueSigns(Runs.withTune(60, 1, 62, 2, 61, 3), 0, "60 62 61");
    }

    private static void pitchEnds() {
        Words.dueSigns(Runs.withTune(0, 1, 127, 1, 0, 1), 0, "0 127 0");
    }

    private static void intervals() {
        Words.dueSigns(Runs.withTune(60, 1, 62, 2, 61, 3, 61, 4), 1, "2 -1 0");
    }

    private static void intervalEnds() {
        Words.dueSigns(Runs.withTune(0, 1, 127, 1, 0, 1), 1, "127 -127");
    }

    private static void turnAbove() {
        Words.dueSigns(Runs.withTune(60, 9, 61, 5, 127, 1), 2, "1 1");
    }

    private static void turnNought() {
        Words.dueSigns(Runs.withTune(60, 9, 60, 5, 60, 9), 2, "0 0");
    }

    private static void turnBelow() {
        Words.dueSigns(Runs.withTune(127, 1, 1, 5, 0, 9), 2, "-1 -1");
    }

    private static void lengths() {
        Words.dueSigns(Runs.withTune(60, 4, 62, 2, 61, 3), 3, "4 2 3");
    }

    private static void lengthEnds() {
        Words.dueSigns(Runs.withTune(60, 1, 60, 64), 3, "1 64");
    }

    private static void lengthAbove() {
        Words.dueSigns(Runs.withTune(62, 1, 61, 2, 60, 64), 4, "1 1");
    }

    private static void lengthLike() {
        Words.dueSigns(Runs.withTune(60, 5, 70, 5, 60, 5), 4, "0 0");
    }

    private static void lengthBelow() {
        Words.dueSigns(Runs.withTune(60, 64, 61, 2, 62, 1), 4, "-1 -1");
    }

    private static void oneNote() {
        int[] views = {1, 2, 4};
        for (int view : views) {
            Words.dueSigns(Runs.withTune(60, 5), view, "");
        }
    }

    private static void oneNoteSeen() {
        Words.dueSigns(Runs.withTune(60, 5), 0, "60");
        Words.dueSigns(Runs.withTune(60, 5), 3, "5");
    }

    private static void noNotes() {
        for (int view = 0; view < 5; view++) {
            Words.dueSigns(Runs.withTune(), view, "");
        }
    }

    private static void allNotes() {
        TuneSearch x = new TuneSearch();
        x.tune();
        StringBuilder pitches = new StringBuilder("100");
        StringBuilder lengths = new StringBuilder("1");
        x.note(0, 100, 1);
        for (int n = 1; n < 24; n++) {
            x.note(0, 100 + n, n + 1);
            pitches.append(' ').append(100 + n);
            lengths.append(' ').append(n + 1);
        }
        Words.dueSigns(x, 0, pitches.toString());
        Words.dueSigns(x, 1, "1 ".repeat(22) + "1");
        Words.dueSigns(x, 2, "1 ".repeat(22) + "1");
        Words.dueSigns(x, 3, lengths.toString());
        Words.dueSigns(x, 4, "1 ".repeat(22) + "1");
    }

    private static void restInView0() {
        Words.dueSigns(Runs.withTune(-1, 1, 62, 2, -1, 3, 0, 1), 0, "r 62 r 0");
    }

    private static void restInView1() {
        Words.dueSigns(Runs.withTune(60, 1, -1, 1, 60, 1, 63, 1, -1, 1), 1, "r r 3 r");
    }

    private static void restInView2() {
        Words.dueSigns(Runs.withTune(60, 1, -1, 1, 60, 1, 63, 1, -1, 1), 2, "r r 1 r");
    }

    private static void twoRests() {
        TuneSearch x = Runs.withTune(-1, 1, -1, 1);
        Words.dueSigns(x, 0, "r r");
        Words.dueSigns(x, 1, "r");
        Words.dueSigns(x, 2, "r");
    }

    private static void restInView3() {
        Words.dueSigns(Runs.withTune(-1, 7, 60, 2, -1, 3), 3, "7 2 3");
    }

    private static void restInView4() {
        Words.dueSigns(Runs.withTune(-1, 7, 60, 2, -1, 3, -1, 3), 4, "-1 1 0");
    }
}
