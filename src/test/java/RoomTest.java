import java.lang.management.ManagementFactory;
import java.util.Random;

/** All calls of a run live in one room: calls make no objects, a new object few, and the dearest calls end soon. */
public final class RoomTest {
    private static final int LONG_RUN = 300;
    /** 7.3 million fields and elements for all; an object takes a small part of it. */
    private static final long OBJECT_BYTES = 40_000;
    private static final long SLACK_BYTES = 20_000;

    public static void main(String[] args) {
        newObjects();
        dearestCalls();
        Check.end();
    }

    private static long allocated() {
        com.sun.management.ThreadMXBean bean = (com.sun.management.ThreadMXBean) ManagementFactory.getThreadMXBean();
        return bean.getThreadAllocatedBytes(Thread.currentThread().getId());
    }

    private static void newObjects() {
        TuneSearch first = new TuneSearch();
        long before = allocated();
        for (int k = 0; k < 10; k++) {
            first.price(0, new TuneSearch().told(0));
        }
        long each = (allocated() - before) / 10;
        Check.due("a new object takes " + each + " bytes, at most " + OBJECT_BYTES, each <= OBJECT_BYTES ? 1 : 0, 1);
    }

    private static TuneSearch full() {
        Random random = new Random(1);
        TuneSearch x = new TuneSearch();
        for (int k = 0; k < 8; k++) {
            x.price(k, 1000 - k);
        }
        for (int n = 0; n < 12; n++) {
            x.query(random.nextInt(128), 1 + random.nextInt(64));
        }
        for (int t = 0; t < 8; t++) {
            x.tune();
            for (int n = 0; n < 24; n++) {
                x.note(t, random.nextInt(128), 1 + random.nextInt(64));
            }
        }
        return x;
    }

    private static void dearestCalls() {
        TuneSearch x = full();
        String text = "(.*|" + "r?.*".repeat(24) + ")*";
        long word = 0x2E2A2E2A2E2A2E2AL;
        everyCall(x, text, word);
        long before = allocated();
        long begin = System.nanoTime();
        for (int k = 0; k < LONG_RUN; k++) {
            everyCall(x, text, word);
        }
        long took = (System.nanoTime() - begin) / 1_000_000;
        long made = allocated() - before;
        Check.due("calls made " + made + " bytes of objects, at most " + SLACK_BYTES, made <= SLACK_BYTES ? 1 : 0, 1);
        System.out.println(LONG_RUN + " times the dearest calls: " + took + " ms");
        Check.due("they take " + took + " ms, at most 60000", took <= 60_000 ? 1 : 0, 1);
    }

    private static void everyCall(TuneSearch x, String text, long word) {
        Runs.typeText(x, text);
        x.word();
        for (int k = 0; k < 20; k++) {
            x.type(word, 8);
        }
        x.word();
        x.fault();
        x.find(0);
        x.near(Integer.MAX_VALUE, 24);
        x.found(0, 0);
        x.distance(0, 1, 3);
        x.freight(2, 3);
        x.share(4, 5);
        x.families(10);
        x.family(3);
        x.told(4);
    }
}
