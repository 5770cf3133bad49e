import java.lang.management.ManagementFactory;

/**
 * LANGUAGE 12 and "all calls of one run live in one room": what an object and its 512 calls make stays small, and calls that
 * only look make nothing. Where the machine cannot tell what a thread has made, only the answers are looked at.
 */
public final class RoomTest {
    private static final int CALLS = 512;
    /** 7.3 million elements of 8 bytes, for some hundred objects in one run. */
    private static final long MOST_BYTES = 7300000L * 8 / 100;

    /** No object is smaller; what the bean makes to tell its number is far below 400 of them. */
    private static final int SMALLEST_OBJECT = 8;

    private interface Calls {
        long on(BeetHouse x);
    }

    public static void main(String[] args) {
        nothingIsMade("best", x -> x.best(), 0);
        nothingIsMade("order", x -> x.order(7), 7);
        nothingIsMade("next", x -> x.next(), 0);
        nothingIsMade("owed", x -> x.owed(5), 1000000000);
        nothingIsMade("coins", x -> x.coins(5), 0);
        nothingIsMade("fieldOf", x -> x.fieldOf(7, 10), 0);
        nothingIsMade("lorryOf", x -> x.lorryOf(7, 0), 0);
        nothingIsMade("load", x -> x.load(0, 0), -9);
        nothingIsMade("count", x -> x.count(8), 0);
        nothingIsMade("hours", x -> x.hours(1), 0);
        nothingIsMade("refusals", x -> x.hours(0) + x.share(6, 0) + x.works(2, 0) + x.lorry(101) + x.frost(false), -4 - 1 - 2 - 6 - 3);
        nothingIsMade("frost", x -> x.frost(true) + x.frost(false), 16);
        nothingIsMade("gang", x -> x.gang(3, 1, 7), 1);
        dearestRun();
        Due.end();
    }

    private static long made() {
        if (ManagementFactory.getThreadMXBean() instanceof com.sun.management.ThreadMXBean bean && bean.isThreadAllocatedMemorySupported()) {
            return bean.getCurrentThreadAllocatedBytes();
        }
        return 0;
    }

    /** Eight heaps and eight lorries. */
    private static BeetHouse eight() {
        BeetHouse x = new BeetHouse();
        for (int f = 0; f < 8; f++) {
            x.field(f % 6, 10, 100, 1, false);
            x.gang(0, 10, f);
            x.hours(1);
            x.lorry(10);
        }
        x.works(1, 300);
        return x;
    }

    private static void nothingIsMade(String name, Calls call, long due) {
        BeetHouse x = eight();
        Due.is(name, call.on(x), due);
        long before = made();
        long sum = 0;
        for (int i = 0; i < 400; i++) {
            sum += call.on(x);
        }
        long bytes = made() - before;
        Due.is(name + ", 400 times", sum, 400 * due);
        Due.holds(name + " makes nothing, made " + bytes + " bytes in 400 calls", bytes < 400 * SMALLEST_OBJECT);
    }

    /** As many loads as 512 calls can bring, all of them in THE YARD. */
    private static void dearestRun() {
        long before = made();
        BeetHouse x = new BeetHouse();
        x.field(0, 5000, 250, 1, false);
        x.gang(0, 100, 0);
        for (int l = 0; l < 8; l++) {
            x.lorry(1);
        }
        int brought = 0;
        for (int round = 0; 10 + 9 * (round + 1) <= CALLS; round++) {
            for (int l = 0; l < 8; l++) {
                brought += x.send(l, 0) > 0 ? 1 : 0;
            }
            x.hours(2);
        }
        long bytes = made() - before;
        Due.is("count(3)", x.count(3), brought);
        Due.holds("the dearest run makes at most " + MOST_BYTES + " bytes, made " + bytes, bytes <= MOST_BYTES);
    }
}
