import java.lang.management.ManagementFactory;

/** All calls of one run live in one room of 7.3 million fields and elements: 512 of the dearest. */
final class RoomTest {
    private static final Due DUE = new Due("RoomTest");
    private static final int CALLS = 512;
    /** Far below the room, whose fields take 4 bytes or more. */
    private static final long MOST_BYTES = 4_000_000;

    private final com.sun.management.ThreadMXBean bean =
            (com.sun.management.ThreadMXBean) ManagementFactory.getThreadMXBean();
    private long began;

    public static void main(String[] args) {
        RoomTest test = new RoomTest();
        test.states();
        test.trials();
        test.tapes();
        DUE.end();
    }

    private void start() {
        began = bean.getThreadAllocatedBytes(Thread.currentThread().getId());
    }

    private void end(String what) {
        long made = bean.getThreadAllocatedBytes(Thread.currentThread().getId()) - began;
        DUE.is(what + " made " + made + " bytes", made <= MOST_BYTES ? 1 : 0, 1);
    }

    private void states() {
        start();
        IceOut x = new IceOut();
        x.begin(24);
        x.run(200);
        x.run(100);
        for (int k = 3; k < CALLS; k += 2) {
            x.keep(k % 6);
            x.back(k % 6);
        }
        end("keep and back");
    }

    private void trials() {
        start();
        IceOut x = new IceOut();
        x.begin(24);
        for (int i = 0; i < 24; i++) {
            x.town(i, 9999, 0, 0);
            x.gauge(i, 0);
        }
        for (int k = 0; k < 8; k++) {
            x.plan(1 + k, 5, k);
        }
        int least = x.worst(255, 4, 96);
        DUE.is("the BEST SET is the whole PLAN", x.best(4, 96), 255);
        DUE.is("by its worst HARM", x.worst(255, 4, 96), least);
        for (int k = 40; k < CALLS; k += 4) {
            x.trial(k % 256, k % 4, 96);
            x.worst(k % 256, 4, 96);
            x.best(1, 12);
            x.fits(1, 96);
        }
        end("trials");
    }

    private void tapes() {
        start();
        IceOut x = new IceOut();
        for (int k = 0; k < CALLS; k += 4) {
            x.tape(k % 5, 4, 100);
            x.put(k % 5, k % 100, k);
            x.copy(k % 5, 0, k % 5, 1, 99);
            Due.thrownBy(x, 5, k);
        }
        end("tapes");
    }
}
