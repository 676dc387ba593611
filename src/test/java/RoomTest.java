import com.sun.management.ThreadMXBean;
import java.lang.management.ManagementFactory;

/** How much room the class takes: a new object so much at most, a call nothing. */
public final class RoomTest extends Asked {
    private static final int MOST_BYTES = 80_000;
    /** The machine takes a little itself as it compiles; an object in each of a hundred calls is more than this. */
    private static final int NOTHING = 1_000;

    /** What the answers come to, so that no call can be left out as useless. */
    private static long sum = 0;

    private static long taken(ThreadMXBean threads) {
        return threads.getCurrentThreadAllocatedBytes();
    }

    private static void change(TreadRing x, int a, int b) {
        sum += x.make(a, b) + x.load(b, a, 0) + (x.store(a, 0, b) ? 1 : 0) + (x.copy(a, b) ? 1 : 0);
        sum += (x.weak(a, b) ? 1 : 0) + x.strong(b, a) + (x.start() ? 1 : 0) + x.work(a) + x.turn(a, b);
        sum += x.run() + (x.undo() ? 1 : 0) + (x.redo() ? 1 : 0) + x.image(a) + x.back(a);
    }

    private static void look(TreadRing x, int a, int b) {
        sum += x.root(a) + x.weakly(a) + x.told(a, b) + x.field(a, b) + x.slot(2 * a, b) + x.ring(a, b) + x.many(a, b);
        sum += x.page(a, b) + x.grey(a) + x.live(a) + x.path(a, 2 * b) + x.retained(2 * a) + x.end(a) + x.room(a, b);
        sum += x.pace(a, 8 * b) + x.game(a, b, 100, b) + x.law(a) + x.about(a) + x.about(8 + a) + x.fault(a);
        sum += x.runBy(a, b) + x.cheapest(a) + x.suits();
    }

    private static void read(TreadRing x, int shift) {
        sum += x.cut(0) + x.feed(0x61203d20, 0x6e657720, 0x313b2062, 0x203d2061, 0x2e303b20) + x.cut(20 - shift) + x.program();
    }

    private static void callAll(TreadRing x) {
        for (int a = -1; a <= 8; a++) {
            for (int b = -1; b <= 8; b++) {
                read(x, Math.abs(a + b) % 3);
                change(x, a, b);
                look(x, a, b);
            }
        }
        sum += x.open(3) ? 1 : 0;
    }

    private static void measure(ThreadMXBean threads) {
        callAll(new TreadRing());
        long ahead = taken(threads);
        TreadRing x = new TreadRing();
        long made = taken(threads) - ahead;
        due("a new object takes at most " + MOST_BYTES + " bytes, not " + made, made <= MOST_BYTES, true);
        long begun = taken(threads);
        callAll(x);
        long bytes = taken(threads) - begun;
        due("a hundred of each call take nothing, not " + bytes + " bytes", bytes < NOTHING, true);
        due("the calls answered", sum != 0, true);
    }

    public static void main(String[] args) {
        if (ManagementFactory.getThreadMXBean() instanceof ThreadMXBean threads
                && threads.isThreadAllocatedMemorySupported() && threads.isThreadAllocatedMemoryEnabled()) {
            measure(threads);
        } else {
            System.out.println("this machine does not tell what room is taken");
        }
        tell();
    }
}
