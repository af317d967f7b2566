import java.util.Arrays;
import java.util.Random;

/** Terms, 3 WAYS: a test for each sentence. */
public final class TermsWaysTest {
    public static void main(String[] args) {
        alone();
        together();
        pairs();
        wholeWays();
        Check.end();
    }

    private static void alone() {
        Check.sentence("one NOTE of A alone: PRICE 2 times its LENGTH", TermsWaysTest::aloneInA);
        Check.sentence("one NOTE of B alone: PRICE 3 times its LENGTH", TermsWaysTest::aloneInB);
        Check.sentence("one NOTE alone: a REST, too", TermsWaysTest::restAlone);
        Check.sentence("one NOTE alone: at a PRICE of 0", TermsWaysTest::aloneForNothing);
        Check.sentence("one NOTE alone: at the dearest", TermsWaysTest::aloneDearest);
    }

    private static void together() {
        Check.sentence("one NOTE of A and 1 of B", TermsWaysTest::oneWithOne);
        Check.sentence("one NOTE of A and 2, 3, 4 of B", TermsWaysTest::oneWithSeveral);
        Check.sentence("one NOTE of A and 1 to 4 of B: not 5", TermsWaysTest::oneWithFive);
        Check.sentence("2, 3, 4 of A and one of B", TermsWaysTest::severalWithOne);
        Check.sentence("2 to 4 of A and one of B: not 5", TermsWaysTest::fiveWithOne);
        Check.sentence("one of A .. or .. one of B: not 2 and 2", TermsWaysTest::twoWithTwo);
        Check.sentence("PRICE 1 times the difference of the LENGTHS of both", TermsWaysTest::lengths);
        Check.sentence("the LENGTHS of both (all together)", TermsWaysTest::lengthsTogether);
        Check.sentence("the difference of the LENGTHS: none", TermsWaysTest::likeLengths);
        Check.sentence("for each of the several with the one", TermsWaysTest::eachOfSeveral);
    }

    private static void pairs() {
        Check.sentence("nothing for two RESTS", TermsWaysTest::twoRests);
        Check.sentence("nothing for two RESTS: by any SHIFT", TermsWaysTest::twoRestsShifted);
        Check.sentence("PRICE 4 if just one is a REST: in A", TermsWaysTest::restInA);
        Check.sentence("PRICE 4 if just one is a REST: in B", TermsWaysTest::restInB);
        Check.sentence("PRICE 4 if just one is a REST: whatever the other is", TermsWaysTest::restWithAny);
        Check.sentence("PRICE 4 if just one is a REST: for each of the several", TermsWaysTest::restWithSeveral);
        Check.sentence("PRICE 0 times the difference of the PITCH in A .. and that in B", TermsWaysTest::pitches);
        Check.sentence("the PITCH in A, and s more: above 0", TermsWaysTest::shiftUp);
        Check.sentence("the PITCH in A, and s more: below 0", TermsWaysTest::shiftDown);
        Check.sentence("the PITCH in A, and s more: beyond 0 and 127", TermsWaysTest::shiftBeyond);
        Check.sentence("the PITCH in A, and s more: for each of the several", TermsWaysTest::shiftOfSeveral);
    }

    private static void wholeWays() {
        Check.sentence("both are gone through, from the first NOTES on", TermsWaysTest::inOrder);
        Check.sentence("both are gone through: to the last", TermsWaysTest::toTheLast);
        Check.sentence("A WAY's cost is the sum of its STEPS", TermsWaysTest::sum);
        Check.sentence("the sum of its STEPS: of none", TermsWaysTest::noSteps);
        Check.sentence("the sum of its STEPS: the dearest", TermsWaysTest::dearest);
        Check.sentence("THE DISTANCE of A and B by s is the least", TermsWaysTest::least);
        Check.sentence("THE DISTANCE .. is the least: against each WAY there is", TermsWaysTest::againstEachWay);
        Check.sentence("THE DISTANCE .. is the least: of like ones", TermsWaysTest::leastOfLike);
        Check.sentence("THE DISTANCE .. is the least: all for nothing", TermsWaysTest::leastOfNothing);
    }

    /** A new object with these prices 0 to 4. */
    private static TuneSearch priced(int pitch, int length, int aloneA, int aloneB, int rest) {
        TuneSearch x = new TuneSearch();
        Runs.prices(x, pitch, length, aloneA, aloneB, rest);
        return x;
    }

    private static void dueDistance(TuneSearch x, int a, int b, int shift, int want) {
        Check.due("distance(" + a + ", " + b + ", " + shift + ")", x.distance(a, b, shift), want);
    }

    private static void aloneInA() {
        TuneSearch x = priced(1000, 1000, 3, 1000, 1000);
        Runs.tune(x, 60, 2, 61, 5);
        Runs.tune(x);
        dueDistance(x, 0, 1, 0, 3 * 7);
        dueDistance(x, 0, 1, 24, 3 * 7);
    }

    private static void aloneInB() {
        TuneSearch x = priced(1000, 1000, 1000, 5, 1000);
        Runs.tune(x);
        Runs.tune(x, 60, 2, 61, 5);
        dueDistance(x, 0, 1, 0, 5 * 7);
        dueDistance(x, 0, 1, -24, 5 * 7);
    }

    private static void restAlone() {
        TuneSearch x = priced(1000, 1000, 3, 5, 1000);
        Runs.tune(x, -1, 4);
        Runs.tune(x);
        dueDistance(x, 0, 1, 0, 12);
        dueDistance(x, 1, 0, 0, 20);
    }

    private static void aloneForNothing() {
        TuneSearch x = priced(1000, 1000, 0, 7, 1000);
        Runs.tune(x, 60, 64);
        Runs.tune(x, 100, 1);
        dueDistance(x, 0, 1, 0, 7);
        dueDistance(x, 1, 0, 0, 7 * 64);
    }

    private static void aloneDearest() {
        TuneSearch x = priced(1000, 1000, 1000, 999, 1000);
        Runs.tune(x);
        Runs.tune(x);
        Runs.fill(x, 0, 24, 60, 64);
        dueDistance(x, 0, 1, 0, 24 * 64 * 1000);
        dueDistance(x, 1, 0, 0, 24 * 64 * 999);
    }

    private static void oneWithOne() {
        TuneSearch x = priced(7, 100, 1000, 1000, 1000);
        Runs.tune(x, 60, 2);
        Runs.tune(x, 63, 4);
        dueDistance(x, 0, 1, 0, 7 * 3 + 100 * 2);
        dueDistance(x, 1, 0, 0, 7 * 3 + 100 * 2);
    }

    private static void oneWithSeveral() {
        TuneSearch x = priced(1, 10, 1000, 1000, 1000);
        Runs.tune(x, 60, 12);
        Runs.tune(x, 60, 5, 60, 7);
        Runs.tune(x, 60, 5, 60, 3, 60, 4);
        Runs.tune(x, 60, 5, 60, 3, 60, 2, 60, 2);
        dueDistance(x, 0, 1, 0, 0);
        dueDistance(x, 0, 2, 0, 0);
        dueDistance(x, 0, 3, 0, 0);
    }

    private static void oneWithFive() {
        TuneSearch x = priced(1, 10, 1000, 1000, 1000);
        Runs.tune(x, 60, 10);
        Runs.tune(x, 60, 2, 60, 2, 60, 2, 60, 2, 60, 2);
        // One of the five is taken alone (2000), the four that are left lack 2 (20).
        dueDistance(x, 0, 1, 0, 2020);
    }

    private static void severalWithOne() {
        TuneSearch x = priced(1, 10, 1000, 1000, 1000);
        Runs.tune(x, 60, 12);
        Runs.tune(x, 60, 5, 60, 7);
        Runs.tune(x, 60, 5, 60, 3, 60, 4);
        Runs.tune(x, 60, 5, 60, 3, 60, 2, 60, 2);
        dueDistance(x, 1, 0, 0, 0);
        dueDistance(x, 2, 0, 0, 0);
        dueDistance(x, 3, 0, 0, 0);
    }

    private static void fiveWithOne() {
        TuneSearch x = priced(1, 10, 1000, 1000, 1000);
        Runs.tune(x, 60, 2, 60, 2, 60, 2, 60, 2, 60, 2);
        Runs.tune(x, 60, 10);
        dueDistance(x, 0, 1, 0, 2020);
    }

    private static void twoWithTwo() {
        TuneSearch x = priced(1, 10, 1000, 1000, 1000);
        Runs.tune(x, 60, 2, 60, 2);
        Runs.tune(x, 60, 1, 60, 3);
        // Both have 4 in all, but 2 goes with 1, and 2 with 3.
        dueDistance(x, 0, 1, 0, 20);
        dueDistance(x, 1, 0, 0, 20);
    }

    private static void lengths() {
        TuneSearch x = priced(1000, 3, 1000, 1000, 1000);
        Runs.tune(x, 60, 1);
        Runs.tune(x, 60, 64);
        dueDistance(x, 0, 1, 0, 3 * 63);
        dueDistance(x, 1, 0, 0, 3 * 63);
    }

    private static void lengthsTogether() {
        TuneSearch x = priced(1000, 3, 1000, 1000, 1000);
        Runs.tune(x, 60, 10);
        Runs.tune(x, 60, 4, 60, 4);
        Runs.tune(x, 60, 9, 60, 5);
        dueDistance(x, 0, 1, 0, 3 * 2);
        dueDistance(x, 1, 0, 0, 3 * 2);
        dueDistance(x, 0, 2, 0, 3 * 4);
        dueDistance(x, 2, 0, 0, 3 * 4);
    }

    private static void likeLengths() {
        TuneSearch x = priced(1, 1000, 1000, 1000, 1000);
        Runs.tune(x, 60, 64);
        Runs.tune(x, 61, 64);
        Runs.tune(x, 60, 32, 60, 32);
        dueDistance(x, 0, 1, 0, 1);
        dueDistance(x, 0, 2, 0, 0);
    }

    private static void eachOfSeveral() {
        TuneSearch x = priced(1, 10, 1000, 1000, 1000);
        Runs.tune(x, 60, 8);
        Runs.tune(x, 61, 2, 63, 2, 57, 2, 65, 2);
        dueDistance(x, 0, 1, 0, 1 + 3 + 3 + 5);
        dueDistance(x, 1, 0, 0, 1 + 3 + 3 + 5);
    }

    private static void twoRests() {
        TuneSearch x = priced(1000, 10, 1000, 1000, 1000);
        Runs.tune(x, -1, 4);
        Runs.tune(x, -1, 3);
        Runs.tune(x, -1, 1, -1, 3);
        dueDistance(x, 0, 0, 0, 0);
        dueDistance(x, 0, 1, 0, 10);
        dueDistance(x, 0, 2, 0, 0);
        dueDistance(x, 2, 0, 0, 0);
    }

    private static void twoRestsShifted() {
        TuneSearch x = priced(1000, 10, 1000, 1000, 1000);
        Runs.tune(x, -1, 4);
        dueDistance(x, 0, 0, 24, 0);
        dueDistance(x, 0, 0, -24, 0);
    }

    private static void restInA() {
        TuneSearch x = priced(1, 10, 1000, 1000, 7);
        Runs.tune(x, -1, 4);
        Runs.tune(x, 60, 4);
        dueDistance(x, 0, 1, 0, 7);
    }

    private static void restInB() {
        TuneSearch x = priced(1, 10, 1000, 1000, 7);
        Runs.tune(x, 60, 4);
        Runs.tune(x, -1, 4);
        dueDistance(x, 0, 1, 0, 7);
    }

    private static void restWithAny() {
        TuneSearch x = priced(1000, 10, 1000, 1000, 7);
        Runs.tune(x, -1, 4);
        Runs.tune(x, 0, 4);
        Runs.tune(x, 127, 4);
        for (int other = 1; other < 3; other++) {
            dueDistance(x, 0, other, 24, 7);
            dueDistance(x, other, 0, -24, 7);
        }
    }

    private static void restWithSeveral() {
        TuneSearch x = priced(1, 10, 1000, 1000, 7);
        Runs.tune(x, -1, 4);
        Runs.tune(x, 60, 4);
        Runs.tune(x, -1, 2, 60, 1, -1, 1);
        // Of the three two are rests.
        dueDistance(x, 0, 2, 0, 7);
        dueDistance(x, 2, 0, 2, 7);
        dueDistance(x, 1, 2, 0, 14);
        dueDistance(x, 2, 1, 2, 14 + 2);
    }

    private static void pitches() {
        TuneSearch x = priced(9, 10, 1000, 1000, 1000);
        Runs.tune(x, 0, 1);
        Runs.tune(x, 127, 1);
        dueDistance(x, 0, 1, 0, 9 * 127);
        dueDistance(x, 1, 0, 0, 9 * 127);
        dueDistance(x, 1, 1, 0, 0);
    }

    private static void shiftUp() {
        TuneSearch x = priced(1, 10, 1000, 1000, 1000);
        Runs.tune(x, 40, 1);
        Runs.tune(x, 64, 1);
        dueDistance(x, 0, 1, 24, 0);
        dueDistance(x, 0, 1, 23, 1);
        dueDistance(x, 1, 0, 24, 48);
    }

    private static void shiftDown() {
        TuneSearch x = priced(1, 10, 1000, 1000, 1000);
        Runs.tune(x, 40, 1);
        Runs.tune(x, 64, 1);
        dueDistance(x, 1, 0, -24, 0);
        dueDistance(x, 1, 0, -23, 1);
        dueDistance(x, 0, 1, -24, 48);
    }

    private static void shiftBeyond() {
        TuneSearch x = priced(1, 10, 1000, 1000, 1000);
        Runs.tune(x, 127, 1);
        Runs.tune(x, 0, 1);
        dueDistance(x, 0, 0, 24, 24);
        dueDistance(x, 0, 1, 24, 151);
        dueDistance(x, 1, 1, -24, 24);
        dueDistance(x, 1, 0, -24, 151);
    }

    private static void shiftOfSeveral() {
        TuneSearch x = priced(1, 10, 1000, 1000, 1000);
        Runs.tune(x, 60, 4);
        Runs.tune(x, 65, 1, 65, 1, 65, 1, 65, 1);
        dueDistance(x, 0, 1, 5, 0);
        dueDistance(x, 0, 1, 3, 8);
        dueDistance(x, 1, 0, -5, 0);
        dueDistance(x, 1, 0, -3, 8);
    }

    private static void inOrder() {
        TuneSearch x = priced(1, 1000, 1000, 1000, 1000);
        Runs.tune(x, 60, 1, 70, 1);
        Runs.tune(x, 70, 1, 60, 1);
        // 60 does not go with the 60 behind and 70 with the 70 before.
        dueDistance(x, 0, 1, 0, 20);
        dueDistance(x, 1, 0, 0, 20);
    }

    private static void toTheLast() {
        TuneSearch x = priced(1000, 1000, 3, 5, 1000);
        Runs.tune(x, 60, 1);
        Runs.tune(x, 0, 2, 60, 1);
        Runs.tune(x, 60, 1, 0, 2);
        dueDistance(x, 0, 1, 0, 10);
        dueDistance(x, 0, 2, 0, 10);
        dueDistance(x, 1, 0, 0, 6);
        dueDistance(x, 2, 0, 0, 6);
    }

    private static void sum() {
        TuneSearch x = priced(1, 100, 90, 1000, 50);
        Runs.tune(x, 20, 1, 60, 2, 64, 4, -1, 3);
        Runs.tune(x, 61, 2, 64, 2, 64, 2, 60, 2);
        // 20 alone, 60 with 61, 64 split, the rest with 60 and a length that differs by 1.
        dueDistance(x, 0, 1, 0, 90 + 1 + 0 + 150);
    }

    private static void noSteps() {
        TuneSearch x = priced(1000, 1000, 1000, 1000, 1000);
        Runs.tune(x);
        Runs.tune(x);
        dueDistance(x, 0, 1, 0, 0);
        dueDistance(x, 0, 1, 24, 0);
        dueDistance(x, 0, 0, -24, 0);
    }

    private static void dearest() {
        TuneSearch x = priced(1000, 1000, 1000, 1000, 1000);
        Runs.tune(x);
        Runs.tune(x);
        Runs.fill(x, 0, 24, 0, 64);
        Runs.fill(x, 1, 24, 127, 64);
        // Two notes together cost 127000 by 0, alone 2 * 64000: just more. By -24 together they'd cost 151000.
        dueDistance(x, 0, 1, 0, 24 * 127000);
        dueDistance(x, 0, 1, 24, 24 * 103000);
        dueDistance(x, 0, 1, -24, 24 * 128000);
    }

    private static void least() {
        TuneSearch x = priced(1, 10, 2, 2, 50);
        Runs.tune(x, 60, 1);
        Runs.tune(x, 63, 1);
        Runs.tune(x, 64, 1);
        Runs.tune(x, 65, 1);
        dueDistance(x, 0, 1, 0, 3);
        dueDistance(x, 0, 2, 0, 4);
        // Both alone cost 4, together they'd cost 5.
        dueDistance(x, 0, 3, 0, 4);
    }

    private static void againstEachWay() {
        Random random = new Random(3);
        for (int run = 0; run < 300; run++) {
            int[] prices = random.ints(5, 0, 9).toArray();
            TuneSearch x = priced(prices[0], prices[1], prices[2], prices[3], prices[4]);
            int[][] a = notesOf(x, random, random.nextInt(6));
            int[][] b = notesOf(x, random, random.nextInt(6));
            int shift = random.nextInt(7) - 3;
            dueDistance(x, 0, 1, shift, leastFrom(a, b, shift, prices));
        }
    }

    /** Makes a tune of so many notes, and answers each one's pitch and length. */
    private static int[][] notesOf(TuneSearch x, Random random, int count) {
        int[][] notes = new int[count][];
        int t = x.tune();
        for (int n = 0; n < count; n++) {
            notes[n] = new int[] {random.nextInt(5) == 0 ? -1 : 60 + random.nextInt(6), 1 + random.nextInt(6)};
            x.note(t, notes[n][0], notes[n][1]);
        }
        return notes;
    }

    /** Tries each step that can come first, and each way behind it. */
    private static int leastFrom(int[][] a, int[][] b, int shift, int[] prices) {
        int least = a.length == 0 && b.length == 0 ? 0 : Integer.MAX_VALUE;
        for (int i = 0; i <= Math.min(4, a.length); i++) {
            for (int j = 0; j <= Math.min(4, b.length); j++) {
                if (i == 1 || j == 1) {
                    int behind = leastFrom(from(a, i), from(b, j), shift, prices);
                    least = Math.min(least, behind + stepCost(a, i, b, j, shift, prices));
                }
            }
        }
        return least;
    }

    private static int[][] from(int[][] notes, int first) {
        return Arrays.copyOfRange(notes, first, notes.length);
    }

    private static int stepCost(int[][] a, int i, int[][] b, int j, int shift, int[] prices) {
        if (i == 0 || j == 0) {
            return i == 1 ? prices[2] * a[0][1] : prices[3] * b[0][1];
        }
        int cost = 0;
        int apart = 0;
        for (int p = 0; p < i; p++) {
            apart += a[p][1];
            for (int q = 0; q < j; q++) {
                boolean restInA = a[p][0] == -1;
                boolean restInB = b[q][0] == -1;
                int notes = prices[0] * Math.abs(a[p][0] + shift - b[q][0]);
                cost += restInA && restInB ? 0 : restInA || restInB ? prices[4] : notes;
            }
        }
        for (int q = 0; q < j; q++) {
            apart -= b[q][1];
        }
        return cost + prices[1] * Math.abs(apart);
    }

    private static void leastOfLike() {
        TuneSearch x = priced(1, 1, 1, 1, 1);
        Runs.tune(x, 60, 1);
        Runs.tune(x, 62, 1);
        dueDistance(x, 0, 1, 0, 2);
        dueDistance(x, 1, 0, 0, 2);
    }

    private static void leastOfNothing() {
        TuneSearch x = priced(0, 0, 0, 0, 0);
        Runs.tune(x, 0, 64, -1, 1, 3, 7);
        Runs.tune(x, 127, 1);
        dueDistance(x, 0, 1, 24, 0);
        dueDistance(x, 1, 0, -24, 0);
    }
}
