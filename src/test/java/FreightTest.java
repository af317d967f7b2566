/** Promises 14 and 15, and with them carrying (4): freight, share. */
public final class FreightTest {
    public static void main(String[] args) {
        nothingToCarry();
        beginsAndPitches();
        leftOnes();
        notTheNearestForEach();
        sentElsewhere();
        all();
        shares();
        noSuchTune();
        Check.end();
    }

    private static void dueBothWays(TuneSearch x, int a, int b, long want) {
        Check.due("freight(" + a + ", " + b + ")", x.freight(a, b), want);
        Check.due("freight(" + b + ", " + a + ")", x.freight(b, a), want);
    }

    private static void nothingToCarry() {
        TuneSearch x = new TuneSearch();
        Runs.tune(x);
        Runs.tune(x, -1, 5);
        Runs.tune(x, 60, 4, -1, 2, 60, 3);
        x.price(7, 10);
        dueBothWays(x, 0, 0, 0);
        dueBothWays(x, 0, 1, 0);
        dueBothWays(x, 0, 2, 70);
        dueBothWays(x, 1, 2, 70);
        dueBothWays(x, 2, 2, 0);
    }

    private static void beginsAndPitches() {
        TuneSearch x = new TuneSearch();
        x.price(5, 10);
        x.price(6, 100);
        Runs.tune(x, 60, 3);
        Runs.tune(x, -1, 4, 62, 3);
        Runs.tune(x, 50, 1, -1, 6, 60, 3);
        dueBothWays(x, 0, 1, 3 * (4 * 10 + 2 * 100));
        // The first has 3 units, the third 4: its 50 is dear, its 60 lies 7 behind.
        dueBothWays(x, 0, 2, 3 * 70 + 1);
        x.price(5, 1000);
        // Now one unit goes to 50 (1000), two go to 60 (14000).
        dueBothWays(x, 0, 2, 1000 + 2 * 7000 + 1);
    }

    private static void leftOnes() {
        TuneSearch x = new TuneSearch();
        Runs.tune(x, 60, 10);
        Runs.tune(x, 90, 4);
        x.price(7, 0);
        // All that can go must go, though it were cheaper to leave it.
        dueBothWays(x, 0, 1, 4 * 30);
        x.price(7, 1000);
        dueBothWays(x, 0, 1, 4 * 30 + 6 * 1000);
    }

    private static void notTheNearestForEach() {
        TuneSearch x = new TuneSearch();
        x.price(5, 0);
        Runs.tune(x, 60, 1, 61, 1);
        Runs.tune(x, 61, 1, 64, 1);
        // 60 to 61, 61 to 64: 4; 60 to 64, 61 to 61: 4. By squares they'd differ, by sums they don't.
        dueBothWays(x, 0, 1, 4);
        Runs.tune(x, 10, 1, 20, 1);
        Runs.tune(x, 19, 1, 0, 1);
        // 10 takes 19 (9) and 20 takes 0 (20), or 10 takes 0 (10) and 20 takes 19 (1).
        dueBothWays(x, 2, 3, 11);
    }

    private static void sentElsewhere() {
        TuneSearch x = new TuneSearch();
        x.price(5, 0);
        Runs.tune(x, 50, 5, 52, 5, 54, 5, 20, 1);
        Runs.tune(x, 51, 5, 53, 5, 55, 5, 100, 5);
        // 50, 52, 54 go up by one; the unit of 20 pushes a unit of each up, the last of them to 100.
        dueBothWays(x, 0, 1, 15 + 80 + 4);
        x.price(7, 7);
        dueBothWays(x, 0, 1, 15 + 80 + 28);
    }

    private static void all() {
        TuneSearch x = new TuneSearch();
        for (int k = 0; k < 8; k++) {
            x.price(k, 1000);
        }
        x.tune();
        x.tune();
        x.tune();
        for (int n = 0; n < 24; n++) {
            x.note(0, n < 12 ? 0 : -1, 64);
            x.note(1, n < 12 ? -1 : 127, 64);
            x.note(2, 127, 64);
        }
        // 768 units go 768 behind and 127 higher.
        dueBothWays(x, 0, 1, 768L * (768000 + 127000));
        dueBothWays(x, 1, 2, 768000);
        dueBothWays(x, 0, 2, 768L * 127000 + 768000);
        Check.due("share(0, 1)", x.share(0, 1), 895000000L);
    }

    private static void shares() {
        TuneSearch x = new TuneSearch();
        Runs.tune(x, 60, 3);
        Runs.tune(x, 61, 1, 60, 6);
        Runs.tune(x, -1, 3);
        Runs.tune(x);
        // Three units go: one to 61 (1), two to 60 (1 behind): 3. Four are left.
        Check.due("freight(0, 1)", x.freight(0, 1), 7);
        Check.due("share(0, 1), cut", x.share(0, 1), 2333);
        Check.due("share(1, 0), cut", x.share(1, 0), 2333);
        Check.due("share(0, 0)", x.share(0, 0), 0);
        Check.dueThrow("share(0, 2)", () -> x.share(0, 2), ArithmeticException.class);
        Check.dueThrow("share(2, 0)", () -> x.share(2, 0), ArithmeticException.class);
        Check.dueThrow("share(3, 0)", () -> x.share(3, 0), ArithmeticException.class);
        Check.dueThrow("share(3, 3)", () -> x.share(3, 3), ArithmeticException.class);
    }

    private static void noSuchTune() {
        TuneSearch x = new TuneSearch();
        Check.due("freight(0, 0) without tunes", x.freight(0, 0), TuneSearch.NONE);
        Runs.tune(x);
        int[] none = {-1, 1, 8, Integer.MIN_VALUE, Integer.MAX_VALUE};
        for (int t : none) {
            Check.due("freight(" + t + ", 0)", x.freight(t, 0), TuneSearch.NONE);
            Check.due("freight(0, " + t + ")", x.freight(0, t), TuneSearch.NONE);
            Check.dueThrow("share(" + t + ", 0)", () -> x.share(t, 0), IndexOutOfBoundsException.class);
            Check.dueThrow("share(0, " + t + ")", () -> x.share(0, t), IndexOutOfBoundsException.class);
        }
    }
}
