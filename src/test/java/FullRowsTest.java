import java.util.ArrayList;
import java.util.Arrays;
import java.util.List;
import java.util.Random;

/** Full rows of long notes at dear prices: there the random runs' slow model, unit by unit, would take too long. */
public final class FullRowsTest {
    private static final int NOTES = 24;
    private static final long FAR = Long.MAX_VALUE / 4;

    private final Random random;
    private final TuneSearch fast = new TuneSearch();
    private final SlowTunes slow = new SlowTunes();
    private final int[] prices = new int[8];
    /** Of each tune its notes' pitches and lengths. */
    private final List<int[][]> tunes = new ArrayList<>();

    private FullRowsTest(int seed) {
        random = new Random(seed);
    }

    public static void main(String[] args) {
        Check.sentence("THE FREIGHT: the least cost of all, of full TUNES", FullRowsTest::freights);
        Check.sentence("THE FREIGHT: from a full TUNE to shorter ones", FullRowsTest::freightsOfShorter);
        Check.sentence("THE DISTANCE of A and B by s is the least: of full TUNES", FullRowsTest::distances);
        Check.sentence("FOUND are the ends ..: in a full TUNE, by each SHIFT", FullRowsTest::ends);
        Check.sentence("FAMILIES: of eight full TUNES", FullRowsTest::families);
        Check.end();
    }

    private static void freights() {
        for (int seed = 0; seed < 40; seed++) {
            FullRowsTest test = new FullRowsTest(seed);
            test.setPrices();
            test.addTune(NOTES);
            test.addTune(NOTES);
            test.dueFreight(0, 1);
            test.dueFreight(1, 0);
        }
    }

    private static void freightsOfShorter() {
        for (int notes = 1; notes < NOTES; notes++) {
            FullRowsTest test = new FullRowsTest(notes);
            test.setPrices();
            test.addTune(NOTES);
            test.addTune(notes);
            test.dueFreight(0, 1);
            test.dueFreight(1, 0);
        }
    }

    private static void distances() {
        for (int seed = 0; seed < 10; seed++) {
            FullRowsTest test = new FullRowsTest(seed);
            test.setPrices();
            test.addTune(NOTES);
            test.addTune(NOTES);
            for (int s = -24; s <= 24; s++) {
                Check.due("distance(0, 1, " + s + ")", test.fast.distance(0, 1, s), test.slow.distance(0, 1, s));
            }
        }
    }

    private static void ends() {
        for (int seed = 0; seed < 3; seed++) {
            FullRowsTest test = new FullRowsTest(seed);
            test.setPrices();
            test.addTune(NOTES);
            for (int n = 0; n < 12; n++) {
                int pitch = test.aPitch();
                int length = test.aLength();
                test.fast.query(pitch, length);
                test.slow.query(pitch, length);
            }
            test.slow.near(Integer.MAX_VALUE, 24);
            for (int part = 0; part <= NOTES; part += 6) {
                test.dueEnds(test.slow.found(part, 3));
            }
        }
    }

    private static void families() {
        for (int seed = 0; seed < 4; seed++) {
            FullRowsTest test = new FullRowsTest(seed);
            test.setPrices();
            for (int t = 0; t < 8; t++) {
                test.addTune(NOTES);
            }
            for (int other = 1; other < 8; other++) {
                int most = Math.min(test.fast.distance(0, other, 0), test.fast.distance(other, 0, 0));
                test.dueFamilies(most - 1);
                test.dueFamilies(most);
            }
        }
    }

    private void setPrices() {
        for (int k = 0; k < prices.length; k++) {
            prices[k] = random.nextInt(4) == 0 ? 1000 : random.nextInt(1001);
            fast.price(k, prices[k]);
            slow.price(k, prices[k]);
        }
    }

    private int aPitch() {
        return random.nextInt(8) == 0 ? -1 : random.nextInt(128);
    }

    private int aLength() {
        return 1 + random.nextInt(64);
    }

    private void addTune(int notes) {
        int t = fast.tune();
        slow.tune();
        int[][] row = new int[notes][];
        for (int n = 0; n < notes; n++) {
            row[n] = new int[] {aPitch(), aLength()};
            fast.note(t, row[n][0], row[n][1]);
            slow.note(t, row[n][0], row[n][1]);
        }
        tunes.add(row);
    }

    /** The slow model has found all ends; those that cost most at most are the first of these. */
    private void dueEnds(int most) {
        int count = 0;
        while (count < slow.told(4) && slow.found(count, 3) <= most) {
            count++;
        }
        Check.due("near(" + most + ", 24)", fast.near(most, 24), count);
        for (int k = 0; k < Math.min(count, fast.told(4)); k++) {
            for (int what = 0; what < 5; what++) {
                Check.due("found(" + k + ", " + what + ")", fast.found(k, what), slow.found(k, what));
            }
        }
    }

    private void dueFamilies(int most) {
        Check.due("families(" + most + ")", fast.families(most), slow.families(most));
        for (int t = 0; t < 8; t++) {
            Check.due("family(" + t + ")", fast.family(t), slow.family(t));
        }
    }

    private void dueFreight(int a, int b) {
        int[][] from = carried(tunes.get(a));
        int[][] to = carried(tunes.get(b));
        int going = Math.min(units(from), units(to));
        long left = (long) prices[7] * (Math.max(units(from), units(to)) - going);
        long cost = left + leastFlow(from, to);
        String pair = "(" + a + ", " + b + ")";
        Check.due("freight" + pair, fast.freight(a, b), cost);
        if (going == 0) {
            Check.dueThrow("share" + pair, () -> fast.share(a, b), ArithmeticException.class);
        } else {
            Check.due("share" + pair, fast.share(a, b), 1000 * cost / going);
        }
    }

    /** Begin, pitch, length of each note that is no rest. */
    private static int[][] carried(int[][] tune) {
        List<int[]> notes = new ArrayList<>();
        int begin = 0;
        for (int[] note : tune) {
            if (note[0] >= 0) {
                notes.add(new int[] {begin, note[0], note[1]});
            }
            begin += note[1];
        }
        return notes.toArray(new int[0][]);
    }

    private static int units(int[][] notes) {
        return Arrays.stream(notes).mapToInt(n -> n[2]).sum();
    }

    private long unitCost(int[] x, int[] y) {
        return (long) prices[5] * Math.abs(x[0] - y[0]) + (long) prices[6] * Math.abs(x[1] - y[1]);
    }

    /**
     * The least cost of the greatest flow through a net: a spring, the notes of the first tune, those of the second, a
     * sink. Paths are sought over all edges again and again until none is cheaper.
     */
    private long leastFlow(int[][] from, int[][] to) {
        int nodes = from.length + to.length + 2;
        int[][] room = new int[nodes][nodes];
        long[][] cost = new long[nodes][nodes];
        int sink = nodes - 1;
        for (int f = 0; f < from.length; f++) {
            room[0][1 + f] = from[f][2];
            for (int t = 0; t < to.length; t++) {
                int taker = 1 + from.length + t;
                room[1 + f][taker] = from[f][2];
                cost[1 + f][taker] = unitCost(from[f], to[t]);
                cost[taker][1 + f] = -cost[1 + f][taker];
                room[taker][sink] = to[t][2];
            }
        }
        long sum = 0;
        for (int[] via = paths(room, cost); via[sink] >= 0; via = paths(room, cost)) {
            sum += push(room, cost, via);
        }
        return sum;
    }

    /** From which node each one is reached at the least cost, -1 if it is not reached. */
    private static int[] paths(int[][] room, long[][] cost) {
        int nodes = room.length;
        int[] via = new int[nodes];
        long[] reach = new long[nodes];
        Arrays.fill(via, -1);
        Arrays.fill(reach, FAR);
        reach[0] = 0;
        for (boolean changed = true; changed;) {
            changed = false;
            for (int u = 0; u < nodes; u++) {
                for (int v = 0; v < nodes; v++) {
                    if (reach[u] < FAR && room[u][v] > 0 && reach[u] + cost[u][v] < reach[v]) {
                        reach[v] = reach[u] + cost[u][v];
                        via[v] = u;
                        changed = true;
                    }
                }
            }
        }
        return via;
    }

    /** Sends as many units as have room on the path to the sink, and answers what they cost. */
    private static long push(int[][] room, long[][] cost, int[] via) {
        int sink = room.length - 1;
        int amount = Integer.MAX_VALUE;
        long each = 0;
        for (int v = sink; v != 0; v = via[v]) {
            amount = Math.min(amount, room[via[v]][v]);
            each += cost[via[v]][v];
        }
        for (int v = sink; v != 0; v = via[v]) {
            room[via[v]][v] -= amount;
            room[v][via[v]] += amount;
        }
        return amount * each;
    }
}
