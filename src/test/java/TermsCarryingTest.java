import java.util.Random;

/** Terms, 4 CARRYING: a test for each sentence. */
public final class TermsCarryingTest {
    public static void main(String[] args) {
        Check.sentence("the NOTES of a TUNE (no RESTS)", TermsCarryingTest::noRests);
        Check.sentence("the NOTES of a TUNE (no RESTS): none but these", TermsCarryingTest::onlyRests);
        Check.sentence("each of so many units as its LENGTH", TermsCarryingTest::unitsAsLength);
        Check.sentence("from each NOTE .. to NOTES: one to several", TermsCarryingTest::oneToSeveral);
        Check.sentence("from each NOTE .. to NOTES: several to one", TermsCarryingTest::severalToOne);
        Check.sentence("as many go as there are in the one that has less", TermsCarryingTest::lessGo);
        Check.sentence("as many go ..: though it were cheaper to leave them", TermsCarryingTest::mustGo);
        Check.sentence("as many go ..: none from an empty TUNE", TermsCarryingTest::noneGo);
        Check.sentence("PRICE 5 times the difference of the BEGINS", TermsCarryingTest::begins);
        Check.sentence("the difference of the BEGINS: of NOTES, not of units", TermsCarryingTest::beginsOfNotes);
        Check.sentence("PRICE 6 times that of the PITCHES", TermsCarryingTest::pitches);
        Check.sentence("PRICE 5 .., and PRICE 6 ..", TermsCarryingTest::beginsAndPitches);
        Check.sentence("PRICES 5, 6: 0", TermsCarryingTest::goForNothing);
        Check.sentence("each that is left PRICE 7", TermsCarryingTest::left);
        Check.sentence("each that is left: none when both have as many", TermsCarryingTest::noneLeft);
        Check.sentence("each that is left: in the first one, in the second one", TermsCarryingTest::leftInEither);
        Check.sentence("each that is left: those that cost least to leave", TermsCarryingTest::leftDear);
        Check.sentence("the least cost of all: not the nearest for each", TermsCarryingTest::leastOfAll);
        Check.sentence("the least cost of all: those that go move on", TermsCarryingTest::moveOn);
        Check.sentence("the least cost of all: no more move on than there are", TermsCarryingTest::moveOnAsFar);
        Check.sentence("the least cost of all: against each way there is", TermsCarryingTest::againstEachWay);
        Check.sentence("the least cost of all: the greatest there is", TermsCarryingTest::greatest);
        Check.sentence("PRICES 0 to 4 are not of it", TermsCarryingTest::otherPrices);
        Check.end();
    }

    /** A new object with these prices 5 to 7. */
    private static TuneSearch priced(int begin, int pitch, int left) {
        TuneSearch x = new TuneSearch();
        Runs.carryPrices(x, begin, pitch, left);
        return x;
    }

    private static void dueBothWays(TuneSearch x, int a, int b, long want) {
        Check.due("freight(" + a + ", " + b + ")", x.freight(a, b), want);
        Check.due("freight(" + b + ", " + a + ")", x.freight(b, a), want);
    }

    private static void noRests() {
        TuneSearch x = priced(0, 1, 1000);
        Runs.tune(x, 60, 3, -1, 64);
        Runs.tune(x, -1, 7, 60, 1, -1, 9, 60, 2);
        dueBothWays(x, 0, 1, 0);
    }

    private static void onlyRests() {
        TuneSearch x = priced(1000, 1000, 10);
        Runs.tune(x, -1, 5, -1, 64);
        Runs.tune(x, -1, 1);
        Runs.tune(x, 60, 3);
        dueBothWays(x, 0, 1, 0);
        dueBothWays(x, 0, 2, 30);
    }

    private static void unitsAsLength() {
        TuneSearch x = priced(0, 1, 0);
        int[] lengths = {1, 2, 63, 64};
        for (int length : lengths) {
            int a = Runs.tune(x, 60, length);
            int b = Runs.tune(x, 61, length);
            dueBothWays(x, a, b, length);
        }
    }

    private static void oneToSeveral() {
        TuneSearch x = priced(0, 1, 1000);
        Runs.tune(x, 60, 10);
        Runs.tune(x, 61, 2, 58, 3, 64, 5);
        dueBothWays(x, 0, 1, 2 * 1 + 3 * 2 + 5 * 4);
    }

    private static void severalToOne() {
        TuneSearch x = priced(0, 1, 1000);
        Runs.tune(x, 61, 1, 58, 1, 64, 1, 60, 1);
        Runs.tune(x, 60, 4);
        dueBothWays(x, 0, 1, 1 + 2 + 4);
    }

    private static void lessGo() {
        TuneSearch x = priced(0, 10, 0);
        Runs.tune(x, 60, 10);
        Runs.tune(x, 61, 4);
        dueBothWays(x, 0, 1, 4 * 10);
    }

    private static void mustGo() {
        TuneSearch x = priced(0, 1000, 0);
        Runs.tune(x, 0, 10);
        Runs.tune(x, 127, 4);
        dueBothWays(x, 0, 1, 4 * 127000);
    }

    private static void noneGo() {
        TuneSearch x = priced(1000, 1000, 10);
        Runs.tune(x);
        Runs.tune(x, 60, 4, -1, 2, 60, 3);
        dueBothWays(x, 0, 0, 0);
        dueBothWays(x, 0, 1, 70);
    }

    private static void begins() {
        TuneSearch x = priced(10, 0, 0);
        Runs.tune(x, 60, 3);
        Runs.tune(x, -1, 4, 60, 3);
        dueBothWays(x, 0, 1, 3 * 4 * 10);
    }

    private static void beginsOfNotes() {
        TuneSearch x = priced(1, 0, 0);
        Runs.tune(x, 60, 64);
        Runs.tune(x, 60, 1);
        Runs.tune(x, 60, 1, 60, 63);
        // The 64 units all begin at 0; those that go to the second note lie 1 before it.
        dueBothWays(x, 0, 1, 0);
        dueBothWays(x, 0, 2, 63);
    }

    private static void pitches() {
        TuneSearch x = priced(0, 100, 0);
        Runs.tune(x, 0, 3);
        Runs.tune(x, 127, 3);
        dueBothWays(x, 0, 1, 3 * 127 * 100);
    }

    private static void beginsAndPitches() {
        TuneSearch x = priced(10, 100, 0);
        Runs.tune(x, 60, 3);
        Runs.tune(x, -1, 4, 62, 3);
        dueBothWays(x, 0, 1, 3 * (4 * 10 + 2 * 100));
    }

    private static void goForNothing() {
        TuneSearch x = priced(0, 0, 9);
        Runs.tune(x, 0, 3);
        Runs.tune(x, -1, 64, 127, 5);
        dueBothWays(x, 0, 1, 2 * 9);
    }

    private static void left() {
        TuneSearch x = priced(0, 0, 1000);
        Runs.tune(x, 60, 10);
        Runs.tune(x, 60, 4);
        dueBothWays(x, 0, 1, 6 * 1000);
    }

    private static void noneLeft() {
        TuneSearch x = priced(0, 1, 1000);
        Runs.tune(x, 60, 10);
        Runs.tune(x, 61, 4, 61, 6);
        dueBothWays(x, 0, 1, 10);
    }

    private static void leftInEither() {
        TuneSearch x = priced(0, 0, 7);
        Runs.tune(x, 60, 2);
        Runs.tune(x, 60, 5);
        Check.due("freight(0, 1), left in the second one", x.freight(0, 1), 21);
        Check.due("freight(1, 0), left in the first one", x.freight(1, 0), 21);
    }

    private static void leftDear() {
        TuneSearch x = priced(0, 1, 5);
        Runs.tune(x, 60, 2);
        Runs.tune(x, 100, 3, 61, 1, 20, 3, 59, 1);
        dueBothWays(x, 0, 1, 2 + 6 * 5);
    }

    private static void leastOfAll() {
        TuneSearch x = priced(0, 1, 0);
        Runs.tune(x, 10, 1, 20, 1);
        Runs.tune(x, 19, 1, 0, 1);
        // 10 to 19 and 20 to 0 would cost 29; 10 to 0 and 20 to 19 cost 11.
        dueBothWays(x, 0, 1, 11);
    }

    private static void moveOn() {
        TuneSearch x = priced(0, 1, 1);
        Runs.tune(x, 50, 5, 52, 5, 54, 5, 20, 1);
        Runs.tune(x, 51, 5, 53, 5, 55, 5, 100, 5);
        // 50, 52, 54 go up by one; the unit of 20 pushes a unit of each up, the last of them to 100.
        dueBothWays(x, 0, 1, 15 + 80 + 4);
        x.price(7, 7);
        dueBothWays(x, 0, 1, 15 + 80 + 28);
        TuneSearch y = priced(1000, 1, 1);
        Runs.tune(y, 60, 3);
        Runs.tune(y, 50, 1, -1, 6, 60, 3);
        // One unit goes to 50 (10 lower), two go to 60 (7 behind), one is left.
        dueBothWays(y, 0, 1, 10 + 2 * 7000 + 1);
    }

    private static void moveOnAsFar() {
        TuneSearch x = priced(0, 1, 0);
        Runs.tune(x, 24, 3, 14, 1, 5, 3);
        Runs.tune(x, 10, 1, 20, 3, 30, 10);
        // One unit of 5 goes to 10, two go to 20; 14 goes to 20 then, and all of 24 to 30.
        dueBothWays(x, 0, 1, 5 + 2 * 15 + 6 + 3 * 6);
    }

    private static void againstEachWay() {
        Random random = new Random(4);
        for (int run = 0; run < 400; run++) {
            TuneSearch x = priced(random.nextInt(3), random.nextInt(3), random.nextInt(9));
            int[][] fewer = unitsOf(x, random, 2 + random.nextInt(6));
            int[][] more = unitsOf(x, random, fewer.length + random.nextInt(2));
            int[] prices = {x.price(5, 1), x.price(6, 1), x.price(7, 1)};
            Runs.carryPrices(x, prices[0], prices[1], prices[2]);
            int left = prices[2] * (more.length - fewer.length);
            dueBothWays(x, 0, 1, left + leastOfEachWay(fewer, more, 0, new boolean[more.length], prices));
        }
    }

    /** Makes a tune of so many units in notes of 1 to 3, and answers each unit's begin and pitch. */
    private static int[][] unitsOf(TuneSearch x, Random random, int count) {
        int[][] units = new int[count][];
        int t = x.tune();
        int begin = 0;
        for (int u = 0; u < count;) {
            int pitch = 60 + random.nextInt(12);
            int length = Math.min(1 + random.nextInt(3), count - u);
            x.note(t, pitch, length);
            for (int k = 0; k < length; k++) {
                units[u++] = new int[] {begin, pitch};
            }
            begin += length;
            if (random.nextInt(3) == 0) {
                x.note(t, -1, 2);
                begin += 2;
            }
        }
        return units;
    }

    /** Tries each free unit of the second one for each unit of the first one, from the u-th on. */
    private static int leastOfEachWay(int[][] from, int[][] to, int u, boolean[] taken, int[] prices) {
        if (u == from.length) {
            return 0;
        }
        int least = Integer.MAX_VALUE;
        for (int k = 0; k < to.length; k++) {
            if (!taken[k]) {
                taken[k] = true;
                int cost = prices[0] * Math.abs(from[u][0] - to[k][0]) + prices[1] * Math.abs(from[u][1] - to[k][1]);
                least = Math.min(least, cost + leastOfEachWay(from, to, u + 1, taken, prices));
                taken[k] = false;
            }
        }
        return least;
    }

    private static void greatest() {
        TuneSearch x = priced(1000, 1000, 1000);
        Runs.tune(x);
        Runs.tune(x);
        Runs.tune(x);
        for (int n = 0; n < 24; n++) {
            x.note(0, n < 12 ? 0 : -1, 64);
            x.note(1, n < 12 ? -1 : 127, 64);
            x.note(2, 127, 64);
        }
        // 768 units go 768 behind and 127 higher.
        dueBothWays(x, 0, 1, 768L * (768000 + 127000));
        dueBothWays(x, 1, 2, 768000);
        dueBothWays(x, 0, 2, 768L * 127000 + 768000);
    }

    private static void otherPrices() {
        TuneSearch x = priced(2, 3, 4);
        Runs.prices(x, 1000, 999, 998, 997, 996);
        Runs.tune(x, 60, 3, -1, 1);
        Runs.tune(x, -1, 1, 61, 4);
        dueBothWays(x, 0, 1, 3 * (2 + 3) + 4);
    }
}
