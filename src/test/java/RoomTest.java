import com.sun.management.ThreadMXBean;
import java.lang.management.ManagementFactory;

/**
 * The room of a run: 512 calls on one object, the dearest ones among them, make fewer bytes than the
 * room has elements. An element takes a byte or more and an object sixteen, so both counts hold.
 */
public final class RoomTest {
    private static final int CALLS = 512;
    private static final int MOST_ELEMENTS = 7300000;
    private static final int NAMES_END = 60;
    private static final int BELOW_ALL = 60;

    private final Checks checks;
    private TermServer server;
    private int calls = 0;

    private RoomTest(Checks checks) {
        this.checks = checks;
    }

    public static void main(String[] args) {
        Checks checks = new Checks("RoomTest");
        // The first run loads classes, which is not the program's own room.
        new RoomTest(checks).run();
        RoomTest measured = new RoomTest(checks);
        long before = bytesMade();
        measured.run();
        long made = bytesMade() - before;
        System.out.println("RoomTest: a run of " + measured.calls + " calls made " + made + " bytes");
        checks.due("calls", measured.calls, CALLS);
        checks.due("too many bytes", made >= MOST_ELEMENTS, false);
        checks.end();
    }

    private void run() {
        server = new TermServer();
        fill();
        for (int round = 0; calls <= CALLS - 6; round++) {
            ask(round % BELOW_ALL + 1);
        }
        while (calls < CALLS) {
            due("names", server.count(1), NAMES_END - 2);
        }
    }

    /** As much as the limits leave room for, and so told that nearly all is linked with all. */
    private void fill() {
        for (int d = 2; d < NAMES_END; d++) {
            due("name", server.name(), d);
        }
        for (int d = NAMES_END; d < 160; d++) {
            due("some", server.some(d % 6, d - 58), d);
        }
        for (int a = 1; a <= BELOW_ALL; a++) {
            due("below", server.below(0, 100 + a - 1), a);
        }
        for (int r = 0; r < 6; r++) {
            for (int s = 0; s < 6; s++) {
                due("chain", server.chain(r, s, (r + s) % 6), BELOW_ALL + 1 + 6 * r + s);
            }
        }
        due("roleBelow", server.roleBelow(0, 1), 97);
        due("below", server.below(59, 58), 98);
        due("below", server.below(58, 57), 99);
        due("below", server.below(59, 57), 100);
    }

    /** Six calls; the last one makes the next round start anew. */
    private void ask(int axiom) {
        due("linked", server.has(axiom, 5, 0) ? 1 : 0, 1);
        due("empty ones", server.count(5), 1);
        due("why", server.why(59, 57), 2);
        due("common", server.common(59, 58, 0), 58);
        due("direct", server.direct(59, 57) ? 1 : 0, 0);
        due("retract", server.retract(axiom) ? 1 : 0, 1);
    }

    private void due(String call, int got, int want) {
        calls++;
        checks.due(call, got, want);
    }

    private static long bytesMade() {
        ThreadMXBean threads = (ThreadMXBean) ManagementFactory.getThreadMXBean();
        return threads.getThreadAllocatedBytes(Thread.currentThread().getId());
    }
}
