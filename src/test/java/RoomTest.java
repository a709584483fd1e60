import com.sun.management.ThreadMXBean;
import java.lang.management.ManagementFactory;

/** One object takes little room, and its calls take none (the room of a run is never swept). */
public final class RoomTest {
    private static final long MOST_BYTES = 250_000;
    /** The machine's own, while it measures; a row made anew by each call would be more. */
    private static final long MEASURING_BYTES = 1000;
    private static final ThreadMXBean THREADS =
            (ThreadMXBean) ManagementFactory.getThreadMXBean();
    private static final Due DUE = new Due();

    public static void main(String[] args) {
        // The first time also loads classes, which is not what is asked for.
        callAll(new NewCoins());
        long before = bytes();
        long nothing = bytes() - before;
        before = bytes();
        NewCoins x = new NewCoins();
        long made = bytes() - before - nothing;
        DUE.is("an object in " + made + " bytes", true, made <= MOST_BYTES);
        before = bytes();
        callAll(x);
        long called = bytes() - before - nothing;
        DUE.is("calls in " + called + " bytes", true, called <= MEASURING_BYTES);
        DUE.end();
    }

    private static long bytes() {
        return THREADS.getThreadAllocatedBytes(Thread.currentThread().getId());
    }

    private static void callAll(NewCoins x) {
        for (int i = 0; i < 8; i++) {
            x.coin(0, 3 * i + 2);
            x.coin(1, 2 * i + 1);
        }
        x.rate(5, 3);
        for (int i = 0; i < 14; i++) {
            x.good(97 * i + 1, i);
        }
        x.sold(0, 5);
        x.step(2);
        x.price(0, 3);
        x.gain(2);
        x.fairest();
        x.gains(77);
        x.fewest(1, 1999, 0);
        x.greedy(1, 1999);
        x.odd(1);
        for (int i = 0; i < 4; i++) {
            x.till();
            for (int coin = 0; coin < 8; coin++) {
                x.put(i, 1, coin, 100);
            }
            x.sale(i, 3, 1, 7, 50);
            x.sale(i, 3, 0, 7, 50);
            x.given(i, 0);
            x.tell(i, 2);
            x.has(i, 1, 0);
            x.draw(i);
            for (int k = 0; k < 20; k++) {
                x.expect(i, k + 1, 0, 7, 50);
            }
            x.wanted(i, 0);
        }
        x.drawn(0);
        x.about(2, 30);
        for (int k = 0; k < 3; k++) {
            x.image(k);
            x.again(k);
        }
        x.forget(0);
    }
}
