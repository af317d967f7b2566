/** Promise 18: told. */
public final class ToldTest {
    public static void main(String[] args) {
        TuneSearch x = new TuneSearch();
        Runs.tune(x, 60, 1, -1, 2);
        Runs.tune(x);
        Runs.tune(x, 61, 1);
        Runs.query(x, 60, 1, 61, 1, -1, 1, 60, 1);
        Runs.typeText(x, "60|61");
        Check.due("told(0)", x.told(0), 3);
        Check.due("told(1), rests too", x.told(1), 3);
        Check.due("told(2)", x.told(2), 4);
        Check.due("told(3)", x.told(3), 5);
        Check.due("told(4)", x.told(4), 0);
        x.word();
        Check.due("told(3) behind word()", x.told(3), 0);
        x.find(0);
        Check.due("told(4) behind find()", x.told(4), 2);
        x.near(100, 0);
        Check.due("told(4) behind near()", x.told(4), 6);
        x.near(-1, 0);
        Check.due("told(4) behind a BAD near()", x.told(4), 6);
        x.forget();
        Check.due("told(2) behind forget()", x.told(2), 0);
        int[] bad = {-1, 5, Integer.MIN_VALUE, Integer.MAX_VALUE};
        for (int what : bad) {
            Check.due("told(" + what + ")", x.told(what), TuneSearch.BAD);
        }
        Check.end();
    }
}
