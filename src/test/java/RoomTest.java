import java.lang.management.ManagementFactory;

/** A run of calls makes its rows in the constructor and its machines, and nothing more. */
final class RoomTest {
    private static final Checks checks = new Checks("RoomTest");
    private static final com.sun.management.ThreadMXBean THREADS =
        (com.sun.management.ThreadMXBean) ManagementFactory.getThreadMXBean();

    private RoomTest() {
    }

    public static void main(String[] args) {
        run(new WordBench());
        long before = made();
        WordBench x = new WordBench();
        long constructed = made() - before;
        checks.holds("the rows of one object are below a megabyte: " + constructed, constructed < 1 << 20);
        for (int i = 0; i < 6; i++) {
            x.machine(12, 4);
        }
        fill(x);
        long least = Long.MAX_VALUE;
        for (int i = 0; i < 5; i++) {
            before = made();
            run(x);
            least = Math.min(least, made() - before);
        }
        // what the machine itself makes now and then does not come each time
        checks.holds("500 calls make next to nothing: " + least, least < 512);
        checks.end();
    }

    private static long made() {
        return THREADS.getThreadAllocatedBytes(Thread.currentThread().getId());
    }

    private static void fill(WordBench x) {
        for (int s = 0; s < 12; s++) {
            for (int l = 0; l < 4; l++) {
                x.move(0, s, l, l == 0 ? (s + 1) % 12 : l == 1 && s == 11 ? 0 : s);
            }
        }
    }

    private static void run(WordBench x) {
        for (int i = 0; i < 25; i++) {
            x.machine(3, 3);
            x.ring(4);
            x.move(1, 1, 1, 1);
            x.light(0, 1, i % 4);
            x.price(0, 1, 1 + i % 5);
            x.share(0, 1, i % 6);
            x.letter(1);
            x.goes(0, 63);
            x.shortest(0, 4095);
            x.shortestTo(0, 4095, 5);
            x.rank(0, 4095);
            x.merge(0, 1, 4);
            x.unmerged(0);
            x.greedy(0, 4095);
            x.cheapest(0, 4095);
            x.chance(0, 4095, 12);
            x.kinds(0);
            x.colour(0);
            x.apart(0, 1, 7);
            x.digest();
        }
    }
}
