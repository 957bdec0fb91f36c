import com.sun.management.ThreadMXBean;
import java.lang.management.ManagementFactory;

/** The room: an object is small, and its calls, but for those that throw, make nothing. */
public final class RoomTests {
    private static final ThreadMXBean THREADS = (ThreadMXBean) ManagementFactory.getThreadMXBean();
    private static final int ROUNDS = 2000;
    private static long sum = 0;

    public static void main(String[] args) {
        MarkovTree x = new MarkovTree();
        for (int i = 0; i < 5; i++) {
            callAll(x, i);
        }
        long before = THREADS.getThreadAllocatedBytes(Thread.currentThread().getId());
        long own = THREADS.getThreadAllocatedBytes(Thread.currentThread().getId()) - before;
        before = THREADS.getThreadAllocatedBytes(Thread.currentThread().getId());
        for (int i = 0; i < ROUNDS; i++) {
            callAll(x, i);
        }
        long made = THREADS.getThreadAllocatedBytes(Thread.currentThread().getId()) - before - own;
        before = THREADS.getThreadAllocatedBytes(Thread.currentThread().getId());
        MarkovTree[] many = new MarkovTree[100];
        for (int i = 0; i < many.length; i++) {
            many[i] = new MarkovTree();
        }
        long each = (THREADS.getThreadAllocatedBytes(Thread.currentThread().getId()) - before - own) / many.length;
        System.out.println(ROUNDS + " rounds of all calls made " + made + " bytes, an object has " + each + " bytes (" + sum + ")");
        // 16 bytes are the least that one object a round would have made
        if (made >= 16L * ROUNDS || each > 30000) {
            System.out.println("that is too much");
            System.exit(1);
        }
    }

    private static void callAll(MarkovTree x, int seed) {
        sum += x.drawn(60, seed);
        // "h [ l r u ] 9 [ [ ] 9 r ] 3" with blanks behind it
        sum += x.feed(0x685b6c72, 0x755d395b, 0x5b5d3972, 0x5d332020, 0x20202020) + (x.end(19) ? 1 : 0) + x.path() + x.fault();
        sum += x.left() + x.right() + x.up() + x.go(2, 3) + x.go(1 + seed % 9, 7);
        for (int what = 0; what < 10; what++) {
            sum += x.now(what);
        }
        sum += x.triple(2) + x.letter(2) + x.cut() + x.matrix(0, 1);
        x.go(3, 2);
        sum += x.form(1) + x.value(3, 4) + x.round() + x.least() + x.spread();
        sum += x.upTo(1000000000000L) + x.markov(seed % 152) + x.rank(433) + x.triples(433) + x.with(433, 2);
        sum += x.mark() + x.marked(0, 0) + x.near(400, true) + x.near(400, false) + x.jump(0) + x.unmark();
        sum += x.told() + x.byteAt(0) + (x.image(seed % 2) ? 1 : 0) + x.undo() + (x.restore(seed % 2) ? 1 : 0);
    }
}
