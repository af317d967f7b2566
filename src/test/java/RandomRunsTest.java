import java.util.Random;

/** Random runs of a fixed seed: TuneSearch and SlowTunes must answer alike at every call. */
public final class RandomRunsTest {
    /** The first ATOMS of them are whole atoms. */
    private static final String[] PIECES = {"1", "0", "-1", "60", "61", "2", "-2", "3", ".", "r", "[0,2]", "[-3,0]",
        "[60,62]", "(", ")", "(", ")", "|", "*", "+", "?", " ", "*", "?", "[", "]", ",", "-", "1000", "x", "(1|",
        "[2,1]"};
    private static final int ATOMS = 13;

    private final Random random;
    private final TuneSearch fast = new TuneSearch();
    private final SlowTunes slow = new SlowTunes();
    private final int widePitch;
    private final int longest;
    /** Every fifth run has few tunes of many notes. */
    private final boolean dense;
    private final int run;

    private RandomRunsTest(int run) {
        this.run = run;
        random = new Random(run);
        int[] wide = {2, 5, 30, 128};
        int[] lengths = {1, 3, 8, 64};
        dense = run % 5 == 0;
        widePitch = wide[random.nextInt(wide.length)];
        longest = lengths[random.nextInt(dense ? 3 : lengths.length)];
    }

    public static void main(String[] args) {
        int runs = args.length > 0 ? Integer.parseInt(args[0]) : 300;
        for (int run = 0; run < runs; run++) {
            new RandomRunsTest(run).go();
        }
        Check.end();
    }

    private void go() {
        if (dense) {
            fillTwoTunes();
        }
        int calls = 60 + random.nextInt(150);
        for (int c = 0; c < calls; c++) {
            oneCall();
        }
    }

    private void fillTwoTunes() {
        for (int t = 0; t < 2; t++) {
            due("tune()", fast::tune, slow::tune);
            for (int n = 12 + pick(15); n > 0; n--) {
                callNote(t);
            }
        }
    }

    private int pick(int bound) {
        return random.nextInt(bound);
    }

    private int aTune() {
        return pick(20) == 0 ? pick(12) - 2 : pick(Math.max(1, fast.told(0)));
    }

    private int aPitch() {
        if (pick(40) == 0) {
            return 126 + pick(4);
        }
        return pick(6) == 0 ? -1 : pick(40) == 0 ? -2 : Math.min(127, (widePitch == 128 ? 0 : 60) + pick(widePitch));
    }

    private int aLength() {
        return pick(40) == 0 ? 64 * pick(2) + pick(2) : 1 + pick(longest);
    }

    private void due(String call, Check.Call got, Check.Call want) {
        Check.due("run " + run + ": " + call, Check.outcome(got), Check.outcome(want));
    }

    private void oneCall() {
        switch (pick(18)) {
            case 0:
                due("tune()", fast::tune, slow::tune);
                break;
            case 1: case 2: case 3: case 4: case 5: case 6:
                callNote(aTune());
                break;
            case 7: case 8:
                callQuery();
                break;
            case 9:
                callPrice();
                break;
            case 10: case 11:
                callWord();
                break;
            case 12: case 13:
                callFind();
                break;
            case 14:
                callNear();
                break;
            case 15:
                callDistance();
                break;
            case 16:
                callFreight();
                break;
            default:
                callFamilies();
                break;
        }
        for (int what = -1; what < 6; what++) {
            int w = what;
            due("told(" + w + ")", () -> fast.told(w), () -> slow.told(w));
        }
    }

    private void callNote(int t) {
        int pitch = aPitch();
        int length = aLength();
        due("note(" + t + ", " + pitch + ", " + length + ")", () -> fast.note(t, pitch, length),
            () -> slow.note(t, pitch, length));
    }

    private void callQuery() {
        if (pick(12) == 0) {
            due("forget()", fast::forget, slow::forget);
        }
        int pitch = aPitch();
        int length = aLength();
        due("query(" + pitch + ", " + length + ")", () -> fast.query(pitch, length), () -> slow.query(pitch, length));
    }

    private void callPrice() {
        int k = pick(20) == 0 ? pick(12) - 2 : pick(8);
        int[] values = {0, 0, 1, 1, 2, 3, 10, pick(1001), -1, 1001};
        int v = values[pick(values.length)];
        due("price(" + k + ", " + v + ")", () -> fast.price(k, v), () -> slow.price(k, v));
    }

    /** A text that keeps to the grammar, most of the time. */
    private String aText(int depth) {
        StringBuilder s = new StringBuilder();
        int items = 1 + pick(3);
        for (int k = 0; k < items; k++) {
            if (k > 0) {
                s.append(pick(4) == 0 ? "|" : " ");
            }
            if (depth > 0 && pick(3) == 0) {
                s.append('(').append(aText(depth - 1)).append(')');
            } else {
                s.append(PIECES[pick(ATOMS)]);
            }
            if (pick(3) == 0) {
                s.append("*+?".charAt(pick(3)));
            }
        }
        return s.toString();
    }

    private String anyText() {
        StringBuilder s = new StringBuilder();
        int pieces = pick(12);
        for (int k = 0; k < pieces; k++) {
            s.append(PIECES[pick(PIECES.length)]);
        }
        return s.toString();
    }

    private void callWord() {
        String text = pick(4) == 0 ? anyText() : aText(3);
        if (pick(30) == 0) {
            text = "(".repeat(pick(10)) + text + ".?".repeat(pick(60)) + text;
        }
        for (int at = 0; at < text.length();) {
            int n = Math.min(1 + pick(8), text.length() - at);
            long w = random.nextLong();
            for (int k = 0; k < n; k++) {
                w = w << 8 | text.charAt(at + k);
            }
            at += n;
            long typed = w;
            due("type(" + typed + ", " + n + ")", () -> fast.type(typed, n), () -> slow.type(typed, n));
        }
        due("word() of '" + text + "'", fast::word, slow::word);
        due("fault() of '" + text + "'", fast::fault, slow::fault);
    }

    private void callFind() {
        int view = pick(30) == 0 ? pick(9) - 2 : pick(5);
        due("find(" + view + ")", () -> fast.find(view), () -> slow.find(view));
        compareFound();
    }

    private void callNear() {
        int[] mosts = {0, 1, 5, 20, 100, 1000, Integer.MAX_VALUE, -1};
        int most = mosts[pick(mosts.length)];
        int shifts = pick(30) == 0 ? 23 + pick(3) : pick(4);
        due("near(" + most + ", " + shifts + ")", () -> fast.near(most, shifts), () -> slow.near(most, shifts));
        compareFound();
    }

    private void compareFound() {
        for (int k = -1; k <= slow.told(4); k++) {
            for (int what = -1; what < 6; what++) {
                int i = k;
                int w = what;
                due("found(" + i + ", " + w + ")", () -> fast.found(i, w), () -> slow.found(i, w));
            }
        }
    }

    private void callDistance() {
        int a = aTune();
        int b = aTune();
        int s = pick(20) == 0 ? 23 + pick(3) : pick(20) == 0 ? -23 - pick(3) : pick(9) - 4;
        due("distance(" + a + ", " + b + ", " + s + ")", () -> fast.distance(a, b, s), () -> slow.distance(a, b, s));
    }

    private void callFreight() {
        int a = aTune();
        int b = aTune();
        due("freight(" + a + ", " + b + ")", () -> fast.freight(a, b), () -> slow.freight(a, b));
        due("share(" + a + ", " + b + ")", () -> fast.share(a, b), () -> slow.share(a, b));
    }

    private void callFamilies() {
        int[] mosts = {0, 1, 5, 10, 20, 50, 100, 1000, Integer.MAX_VALUE, -1};
        int most = mosts[pick(mosts.length)];
        due("families(" + most + ")", () -> fast.families(most), () -> slow.families(most));
        for (int t = -1; t < 9; t++) {
            int tune = t;
            due("family(" + tune + ")", () -> fast.family(tune), () -> slow.family(tune));
        }
    }
}
