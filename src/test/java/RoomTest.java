import java.lang.management.ManagementFactory;

/**
 * All that one run makes stays in a room of 600,000 objects and 7.3 million fields and elements. The
 * constructor makes every row; this test sees that the calls after it make nothing, and that even
 * a run which makes a new object with each of 512 calls would fit.
 */
public final class RoomTest {
    private static final int CALLS = 512;
    private static final int TRIES = 10;
    private static final int BYTES_OF_AN_INT = 4;
    private static final long MOST_ELEMENTS = 7_300_000;

    private RoomTest() {
    }

    public static void main(String[] args) {
        Check check = new Check();
        BlockCoder coder = new BlockCoder();
        long measuring = Long.MAX_VALUE;
        long making = Long.MAX_VALUE;
        long calling = Long.MAX_VALUE;
        // The least of some tries: what the machine makes for itself at first does not count.
        for (int i = 0; i < TRIES; i++) {
            long first = bytesMade();
            long second = bytesMade();
            new BlockCoder();
            long third = bytesMade();
            callMuch(coder);
            long fourth = bytesMade();
            measuring = Math.min(measuring, second - first);
            making = Math.min(making, third - second);
            calling = Math.min(calling, fourth - third);
        }
        long made = making - measuring;
        check.same("an object of " + made + " bytes: 512 fit",
            "" + (made / BYTES_OF_AN_INT * CALLS < MOST_ELEMENTS), "true");
        check.same("the constructor is measured", "" + (made > 0), "true");
        check.same("bytes that the calls make", "" + (calling - measuring), "0");
        check.finish("RoomTest");
    }

    private static long bytesMade() {
        var threads = (com.sun.management.ThreadMXBean) ManagementFactory.getThreadMXBean();
        return threads.getThreadAllocatedBytes(Thread.currentThread().getId());
    }

    private static void callMuch(BlockCoder coder) {
        for (int i = 0; i < 5; i++) {
            coder.feed(0x0123456789ABCDEFL * (2 * i + 1), 16);
        }
        for (int i = 0; i < 20; i++) {
            coder.set(i, 15 - i % 16);
            coder.setLimit(1 + i % 6);
            coder.setPrices(i, 20 - i);
            coder.setGreatest(80 - i);
            int blocks = coder.plan();
            coder.write();
            coder.flip(i);
            coder.read();
            coder.differences();
            coder.average();
            coder.gain();
            coder.costOf(i, 80);
            coder.count(0, 80, i % 16);
            coder.look(blocks - 1, 0);
            coder.slack(0);
            coder.digest();
        }
        coder.cut(80);
    }
}
