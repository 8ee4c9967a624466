import com.sun.management.ThreadMXBean;
import java.lang.management.ManagementFactory;

/**
 * Runs of 512 calls that make and ask as much as they can: all they ever make must fit into the
 * one room, with much to spare (7.3 million elements; four bytes are the smallest of them here).
 */
public final class RoomTest {
    private static final long MOST_BYTES = 4L * 7300000 / 8;
    private static final int CALLS = 512;

    private final Report report = new Report();
    private final ThreadMXBean bean = (ThreadMXBean) ManagementFactory.getThreadMXBean();
    private int calls;

    public static void main(String[] args) {
        RoomTest test = new RoomTest();
        test.objectsOnly();
        test.leaves();
        test.tower(2);
        test.tower(3);
        test.madeAndDropped();
        test.report.end();
    }

    private long before() {
        calls = 0;
        return bean.getCurrentThreadAllocatedBytes();
    }

    private boolean more() {
        calls++;
        return calls < CALLS;
    }

    private void within(String run, long before) {
        long made = bean.getCurrentThreadAllocatedBytes() - before;
        System.out.println(run + ": " + made + " bytes");
        report.due(run + " fits", made <= MOST_BYTES ? 1 : 0, 1);
    }

    private void objectsOnly() {
        long before = before();
        while (more()) {
            new EnclosedDigits().whole(1);
        }
        within("new objects", before);
    }

    private void leaves() {
        long before = before();
        EnclosedDigits x = new EnclosedDigits();
        for (int i = 0; i < 60; i++, more()) {
            int made = i % 3 == 0 ? x.arctan(2 + i) : i % 3 == 1 ? x.artanh(2 + i) : x.power(-5, 1);
            report.due("made", made, i);
        }
        while (more()) {
            x.enclose(calls % 60, 480 - calls % 7);
        }
        within("leaves", before);
    }

    private void tower(int op) {
        long before = before();
        EnclosedDigits x = new EnclosedDigits();
        x.arctan(2);
        x.power(5, 1);
        for (int i = 2; i < 60; i++, more()) {
            report.due("made", i % 4 == 3 ? x.root(i - 1) : x.join(op, i - 1, 1), i);
        }
        while (more()) {
            switch (calls % 4) {
                case 0 -> x.order(59, 59);
                case 1 -> x.digits(59, 400);
                case 2 -> x.quotients(59, 40);
                default -> x.enclose(58, 480);
            }
        }
        within("tower of " + op, before);
    }

    private void madeAndDropped() {
        long before = before();
        EnclosedDigits x = new EnclosedDigits();
        while (more()) {
            switch (calls % 4) {
                case 1 -> x.power(5, 1 + calls);
                case 2 -> x.join(2, 0, 0);
                case 3 -> x.digits(1, 400);
                default -> x.drop(0);
            }
        }
        within("made and dropped", before);
    }
}
