import com.sun.management.ThreadMXBean;
import java.lang.management.ManagementFactory;

/** All calls of a run live in one room: no call makes an object, and an object stays small. */
public final class RoomTest {
    private static final ThreadMXBean THREADS = (ThreadMXBean) ManagementFactory.getThreadMXBean();
    private static final int ROUNDS = 20;
    /** Of 600,000 objects and 7.3 million fields and elements, some 8 bytes each, a small part. */
    private static final long MOST_BYTES_OF_ONE = 16_000;
    /** The dearest: six people, of whom the last wants what no loan can show them. */
    private static final String SIX = "k;t3169;t3169;t3169;t3169;t3169;c0159";

    private RoomTest() { }

    public static void main(String[] args) {
        Due due = new Due();
        due.isTrue("bytes are counted", THREADS.isThreadAllocatedMemorySupported());
        int[] codes = SIX.chars().toArray();
        // What the machine makes when a line runs for the first time is not the object's.
        LentYouths first = new LentYouths();
        tellAll(first, codes);
        askAll(first);

        long before = THREADS.getCurrentThreadAllocatedBytes();
        LentYouths x = new LentYouths();
        long behind = THREADS.getCurrentThreadAllocatedBytes();
        due.isTrue("an object takes " + (behind - before) + " bytes", behind - before <= MOST_BYTES_OF_ONE);

        before = THREADS.getCurrentThreadAllocatedBytes();
        tellAll(x, codes);
        for (int round = 0; round < ROUNDS; round++) {
            askAll(x);
        }
        behind = THREADS.getCurrentThreadAllocatedBytes();
        due.isTrue("the calls made " + (behind - before) + " bytes", behind == before);
        due.finish();
    }

    private static void tellAll(LentYouths x, int[] codes) {
        x.sheet(0, 1, codes.length);
        for (int i = 0; i < codes.length; i++) {
            x.put(0, i, codes[i]);
        }
        x.counter(0, 1, 0, codes.length);
        x.sheet(1, 2, 40);
        for (int i = 0; i < 40; i++) {
            x.put(1, i, i % 6);
        }
        x.reading(0, 1, true);
        x.sheet(2, 2, 0);
    }

    private static void askAll(LentYouths x) {
        x.ofPerson(0, 4);
        x.live(5, x.live(5, 1));
        x.want(5, x.want(5, 1));
        x.loans(1, 2, 0, 20, 2);
        x.fewest(63, -1);
        x.match(-1);
        x.help(0);
        x.reading(1, 1, true);
        x.back(1);
        x.told(0, 1, 2, 0, 20, 0);
        x.kinds(0, 1, 2, 0, 20);
        x.wears(0, 1, 2, 0, 20);
        x.odds(0, 1, 2, 0, 20, 0);
        x.copy(1, 0, 1, 1, 0);
        x.cell(1, 0, 2);
        x.tell(0);
        x.hand(0);
        x.as(0, 1);
        x.lose(2);
        x.sheet(2, 0, 60);
        x.trace();
        x.fault();
        x.many(0);
    }
}
