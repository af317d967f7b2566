/** Promises 14 and 15: freight, share. */
public final class FreightTest {
    private static final int[] NO_TUNES = {-1, 2, 7, 8, Integer.MIN_VALUE, Integer.MAX_VALUE};

    public static void main(String[] args) {
        freights();
        shares();
        Check.end();
    }

    private static void freights() {
        Check.sentence("14: THE FREIGHT from a TUNE to another one", FreightTest::fromOneToAnother);
        Check.sentence("14: from a TUNE to another one: from the one that has more", FreightTest::fromMore);
        Check.sentence("14: from a TUNE to itself", FreightTest::toItself);
        Check.sentence("14: from a TUNE to another one: empty ones", FreightTest::empty);
        Check.sentence("14: THE FREIGHT: the greatest there is", FreightTest::greatestFreight);
        Check.sentence("14: THE FREIGHT: the same when it is asked for again", FreightTest::again);
        Check.sentence("14: NONE: a", FreightTest::noneA);
        Check.sentence("14: NONE: b", FreightTest::noneB);
        Check.sentence("14: NONE: without TUNES", FreightTest::noTunes);
    }

    private static void shares() {
        Check.sentence("15: 1000 times THE FREIGHT by how many units go", FreightTest::share);
        Check.sentence("15: THE FREIGHT: what is left, too", FreightTest::shareOfLeft);
        Check.sentence("15: by how many units go: the lesser of both", FreightTest::shareByLesser);
        Check.sentence("15: cut", FreightTest::shareCut);
        Check.sentence("15: cut: less than one", FreightTest::shareBelowOne);
        Check.sentence("15: a FREIGHT of 0", FreightTest::shareOfNothing);
        Check.sentence("15: 1000 times THE FREIGHT: of the greatest", FreightTest::greatestShare);
        Check.sentence("15: IndexOutOfBoundsException: there is no such TUNE: a", FreightTest::noSuchA);
        Check.sentence("15: IndexOutOfBoundsException: there is no such TUNE: b", FreightTest::noSuchB);
        Check.sentence("15: IndexOutOfBoundsException: without TUNES", FreightTest::noSuchAtAll);
        Check.sentence("15: IndexOutOfBoundsException: though none goes", FreightTest::noSuchBeforeNone);
        Check.sentence("15: ArithmeticException: none goes from an empty TUNE", FreightTest::noneFromEmpty);
        Check.sentence("15: ArithmeticException: none goes to an empty TUNE", FreightTest::noneToEmpty);
        Check.sentence("15: ArithmeticException: none goes of RESTS alone", FreightTest::noneOfRests);
        Check.sentence("15: none goes: one unit does", FreightTest::oneGoes);
        Check.sentence("15: a share() that throws changes nothing", FreightTest::throwingChangesNothing);
    }

    private static TuneSearch withTwo() {
        TuneSearch x = Runs.withTune(60, 3);
        Runs.tune(x, 61, 1, 60, 6);
        return x;
    }

    private static void fromOneToAnother() {
        TuneSearch x = withTwo();
        // Three units go: one to 61 (1), two to 60 (1 behind): 3. Four are left.
        Check.due("freight(0, 1)", x.freight(0, 1), 7);
    }

    private static void fromMore() {
        TuneSearch x = withTwo();
        Check.due("freight(1, 0)", x.freight(1, 0), 7);
    }

    private static void toItself() {
        TuneSearch x = withTwo();
        Check.due("freight(0, 0)", x.freight(0, 0), 0);
        Check.due("freight(1, 1)", x.freight(1, 1), 0);
    }

    private static void empty() {
        TuneSearch x = withTwo();
        Runs.tune(x);
        Check.due("freight(2, 0)", x.freight(2, 0), 3);
        Check.due("freight(1, 2)", x.freight(1, 2), 7);
        Check.due("freight(2, 2)", x.freight(2, 2), 0);
    }

    /** Two tunes of 24 notes, half of them rests: 768 units go 768 behind and 127 higher. */
    private static TuneSearch dearest() {
        TuneSearch x = Runs.withTune();
        Runs.tune(x);
        for (int n = 0; n < 24; n++) {
            x.note(0, n < 12 ? 0 : -1, 64);
            x.note(1, n < 12 ? -1 : 127, 64);
        }
        Runs.carryPrices(x, 1000, 1000, 1000);
        return x;
    }

    private static void greatestFreight() {
        TuneSearch x = dearest();
        Check.due("freight(0, 1)", x.freight(0, 1), 768L * 895000);
        Check.due("freight(1, 0)", x.freight(1, 0), 768L * 895000);
    }

    private static void again() {
        TuneSearch x = withTwo();
        for (int k = 0; k < 3; k++) {
            Check.due("freight(0, 1)", x.freight(0, 1), 7);
            Check.due("freight(1, 1)", x.freight(1, 1), 0);
        }
    }

    private static void noneA() {
        TuneSearch x = withTwo();
        for (int t : NO_TUNES) {
            Check.due("freight(" + t + ", 0)", x.freight(t, 0), TuneSearch.NONE);
        }
    }

    private static void noneB() {
        TuneSearch x = withTwo();
        for (int t : NO_TUNES) {
            Check.due("freight(0, " + t + ")", x.freight(0, t), TuneSearch.NONE);
        }
    }

    private static void noTunes() {
        Check.due("freight(0, 0)", new TuneSearch().freight(0, 0), TuneSearch.NONE);
    }

    private static void share() {
        TuneSearch x = Runs.withTune(60, 4);
        Runs.tune(x, 67, 4);
        Check.due("share(0, 1)", x.share(0, 1), 7000);
        Check.due("share(1, 0)", x.share(1, 0), 7000);
    }

    private static void shareOfLeft() {
        TuneSearch x = Runs.withTune(60, 4);
        Runs.tune(x, 60, 10);
        x.price(7, 5);
        Check.due("share(0, 1)", x.share(0, 1), 7500);
    }

    private static void shareByLesser() {
        TuneSearch x = Runs.withTune(60, 2);
        Runs.tune(x, 61, 10);
        x.price(7, 0);
        Check.due("share(0, 1)", x.share(0, 1), 1000);
        Check.due("share(1, 0)", x.share(1, 0), 1000);
    }

    private static void shareCut() {
        TuneSearch x = withTwo();
        Check.due("share(0, 1)", x.share(0, 1), 2333);
        Check.due("share(1, 0)", x.share(1, 0), 2333);
        x.price(7, 2);
        // 11 by 3: 3666.67 is cut, too.
        Check.due("share(0, 1)", x.share(0, 1), 3666);
    }

    private static void shareBelowOne() {
        TuneSearch x = Runs.withTune();
        Runs.fill(x, 0, 24, 60, 64);
        Runs.tune(x, 61, 1);
        for (int n = 1; n < 24; n++) {
            x.note(1, 60, 64);
        }
        Runs.carryPrices(x, 0, 1, 0);
        // One unit goes 1 higher or stays, 1473 go for nothing.
        Check.due("share(0, 1)", x.share(0, 1), 0);
        Check.due("freight(0, 1)", x.freight(0, 1), 1);
    }

    private static void shareOfNothing() {
        TuneSearch x = withTwo();
        Check.due("share(0, 0)", x.share(0, 0), 0);
        Check.due("share(1, 1)", x.share(1, 1), 0);
    }

    private static void greatestShare() {
        TuneSearch x = dearest();
        Check.due("share(0, 1)", x.share(0, 1), 895000000L);
        TuneSearch y = Runs.withTune(0, 1);
        Runs.tune(y);
        Runs.fill(y, 1, 24, 127, 64);
        Runs.carryPrices(y, 1000, 1000, 1000);
        // One unit goes 127 higher, 1535 are left.
        Check.due("share(0, 1) by one unit", y.share(0, 1), 1000L * (127000 + 1535000));
    }

    private static void dueNoSuch(TuneSearch x, int a, int b) {
        Check.dueThrow("share(" + a + ", " + b + ")", () -> x.share(a, b), IndexOutOfBoundsException.class);
    }

    private static void noSuchA() {
        TuneSearch x = withTwo();
        for (int t : NO_TUNES) {
            dueNoSuch(x, t, 0);
        }
    }

    private static void noSuchB() {
        TuneSearch x = withTwo();
        for (int t : NO_TUNES) {
            dueNoSuch(x, 0, t);
        }
    }

    private static void noSuchAtAll() {
        dueNoSuch(new TuneSearch(), 0, 0);
    }

    private static void noSuchBeforeNone() {
        TuneSearch x = Runs.withTune();
        dueNoSuch(x, 0, 1);
        dueNoSuch(x, 1, 0);
        dueNoSuch(x, -1, 0);
    }

    private static void dueNoneGoes(TuneSearch x, int a, int b) {
        Check.dueThrow("share(" + a + ", " + b + ")", () -> x.share(a, b), ArithmeticException.class);
    }

    private static void noneFromEmpty() {
        TuneSearch x = Runs.withTune();
        Runs.tune(x, 60, 1);
        dueNoneGoes(x, 0, 1);
        dueNoneGoes(x, 0, 0);
    }

    private static void noneToEmpty() {
        TuneSearch x = Runs.withTune();
        Runs.tune(x, 60, 1);
        dueNoneGoes(x, 1, 0);
    }

    private static void noneOfRests() {
        TuneSearch x = Runs.withTune(-1, 64, -1, 3);
        Runs.tune(x, 60, 1);
        dueNoneGoes(x, 0, 1);
        dueNoneGoes(x, 1, 0);
        dueNoneGoes(x, 0, 0);
    }

    private static void oneGoes() {
        TuneSearch x = Runs.withTune(-1, 64, 60, 1);
        Runs.tune(x, 60, 1);
        Check.due("share(0, 1)", x.share(0, 1), 64000);
    }

    private static void throwingChangesNothing() {
        TuneSearch x = withTwo();
        Runs.tune(x);
        dueNoSuch(x, 0, 3);
        dueNoneGoes(x, 0, 2);
        TuneSearch without = withTwo();
        Runs.tune(without);
        Check.due("all that is seen", Probe.read(x), Probe.read(without));
    }
}
