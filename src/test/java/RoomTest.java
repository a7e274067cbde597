import com.sun.management.ThreadMXBean;
import java.lang.management.ManagementFactory;

/**
 * The dearest runs of 512 calls: a full text, 30 asks joined out of one another and four slots that
 * fit everywhere, with a change ahead of every answer. They make hardly any objects, as the room of
 * a run is bounded.
 */
public final class RoomTest {
    private static final int CALLS = 512;
    /** Some 1,600 ints and 70 objects and arrays for one PhraseMoves, far below the room of a run. */
    private static final long MOST_BYTES = 32_000;

    public static void main(String[] args) {
        ThreadMXBean threads = (ThreadMXBean) ManagementFactory.getThreadMXBean();
        play(true);
        play(false);
        long thread = Thread.currentThread().getId();
        boolean fits = true;
        for (boolean phrase : new boolean[] {true, false}) {
            long before = threads.getThreadAllocatedBytes(thread);
            play(phrase);
            long bytes = threads.getThreadAllocatedBytes(thread) - before;
            if (bytes > MOST_BYTES) {
                fits = false;
                System.out.println("a run made " + bytes + " bytes, at most " + MOST_BYTES + " are due");
            }
        }
        System.out.println(fits ? "the dearest runs fit into their room" : "the dearest runs are too dear");
        if (!fits) {
            System.exit(1);
        }
    }

    private static long play(boolean phrase) {
        PhraseMoves x = new PhraseMoves();
        int calls = 0;
        for (int place = 0; place < 30; place++, calls++) {
            x.put(place, 15);
        }
        for (int ask = 0; ask < 30; ask++, calls++) {
            x.ask(ask < 2 ? 0 : ask % 2 == 0 ? 4 : 1, ask - 2, ask - 1, ask < 2 ? ask : 30);
        }
        for (int slot = 0; slot < 4; slot++, calls++) {
            x.slot(0, 1 << slot);
        }
        long sum = 0;
        while (calls + 2 <= CALLS) {
            sum += x.put(calls % 30, 15);
            sum += phrase ? x.weight(9) : x.count(29);
            calls += 2;
        }
        return sum;
    }
}
