import com.sun.management.ThreadMXBean;
import java.lang.management.ManagementFactory;
import java.util.Random;

/** The room that an object takes, that its calls take none, and that 512 of the dearest calls end in time. */
public final class Room {
    private static final int MOST_BYTES_MADE = 16000;
    private static final int MOST_BYTES_CALLED = 2000;
    private static final long MOST_NANOS = 60_000_000_000L;
    private static final int CALLS = 512;

    private static final ThreadMXBean BEAN = (ThreadMXBean) ManagementFactory.getThreadMXBean();

    public static void main(String[] args) {
        // Classes are loaded, and the counter's own first use is over, ahead of what is counted.
        callAll(thick(0), new Random(0));
        bytes();
        boolean wrong = false;
        for (int seed = 1; seed <= 5; seed++) {
            long before = bytes();
            NextDoor x = new NextDoor();
            long made = bytes() - before;
            fill(x, seed);
            Random random = new Random(seed);
            before = bytes();
            long began = System.nanoTime();
            callAll(x, random);
            long took = System.nanoTime() - began;
            long called = bytes() - before;
            if (made > MOST_BYTES_MADE || called > MOST_BYTES_CALLED || took > MOST_NANOS) {
                wrong = true;
                System.out.println("seed " + seed + ": made " + made + " bytes, called " + called + " bytes, took " + took + " ns");
            }
        }
        System.out.println(wrong ? "too much room or time" : "room and time are kept");
        if (wrong) {
            System.exit(1);
        }
    }

    private static long bytes() {
        return BEAN.getThreadAllocatedBytes(Thread.currentThread().getId());
    }

    private static NextDoor thick(int seed) {
        NextDoor x = new NextDoor();
        fill(x, seed);
        return x;
    }

    private static void fill(NextDoor x, int seed) {
        Random random = new Random(seed);
        for (int i = 0; i < 6; i++) {
            x.shop(random.nextInt(6), random.nextInt(21), 1, 240);
            x.free(i, true);
        }
        for (int a = 0; a < 6; a++) {
            for (int b = a + 1; b < 6; b++) {
                x.next(a, b, true);
            }
        }
        for (int i = 0; i < 6; i++) {
            x.buyer(i, 99);
        }
    }

    private static void callAll(NextDoor x, Random random) {
        for (int i = 0; i < CALLS; i++) {
            switch (i % 16) {
                case 0: x.image(i / 16 % 2); break;
                case 1: x.price(random.nextInt(6), random.nextInt(21)); break;
                case 2: x.cheapest(random.nextInt(64), 0); break;
                case 3: x.mends(random.nextInt(6)); break;
                case 4: x.wanted(-1); break;
                case 5: x.asks(random.nextInt(6)); break;
                case 6: x.type(0x73686f7020302030L, 8); break;
                case 7: x.read(); break;
                case 8: x.from(i / 16 % 2); break;
                case 9: x.shutOut(random.nextInt(6)); break;
                case 10: x.worth(random.nextInt(64), random.nextInt(6)); break;
                default: x.changes(random.nextInt(7) - 1); break;
            }
        }
    }
}
