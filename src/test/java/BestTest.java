import java.util.function.Consumer;

/** Promises 17 and 18: the order of heaps that wastes least. */
public final class BestTest {
    public static void main(String[] args) {
        noHeaps();
        equalOrders();
        dayEndCounts();
        cutUp();
        lastHour();
        asTheyAre();
        longWay();
        oneRoot();
        eightHeaps();
        refusals();
        Due.end();
    }

    /** Heaps of one farmer: rows of roots, sweet, stony (1); works of the rate; at hour 1. */
    private static BeetHouse heaps(int rate, int... rows) {
        BeetHouse x = new BeetHouse();
        for (int i = 0; i + 2 < rows.length; i += 3) {
            x.field(0, rows[i], rows[i + 1], 1, rows[i + 2] == 1);
            x.gang(i / 3, 100, i / 3);
        }
        x.hours(1);
        x.works(1, rate);
        x.table(5, 10);
        return x;
    }

    private static void order(String what, BeetHouse x, int waste, int... fields) {
        Due.is("best() " + what, x.best(), waste);
        for (int i = 0; i < fields.length; i++) {
            Due.is("order(" + i + ") " + what, x.order(i), fields[i]);
        }
        Due.is("order(" + fields.length + ") " + what, x.order(fields.length), -9);
        Due.is("order(-1) " + what, x.order(-1), -9);
        Due.is("order of the greatest " + what, x.order(Integer.MAX_VALUE), -9);
        Due.is("order of the least " + what, x.order(Integer.MIN_VALUE), -9);
        Due.is("count(13) " + what, x.count(13), 0);
    }

    private static void noHeaps() {
        BeetHouse x = new BeetHouse();
        x.works(1, 1);
        order("of no heaps", x, 0);
        x.field(0, 10, 100, 1, false);
        order("of a field without a heap", x, 0);
    }

    private static void equalOrders() {
        BeetHouse x = heaps(10, 10, 100, 0, 10, 100, 0, 10, 100, 0);
        order("nothing wastes today", x, 0, 0, 1, 2);
        x.works(1, 1);
        order("two alike before the end of the day", x, 0, 0, 1, 2);
        x.hours(10);
        order("the last begins behind it", x, 10, 0, 1, 2);
    }

    /** The end of the day in whose hour a heap begins counts; the end that is now does not. */
    private static void dayEndCounts() {
        BeetHouse x = heaps(1, 23, 100, 0, 23, 100, 0);
        order("begins at hour 24", x, 23, 0, 1);
        BeetHouse y = heaps(1, 22, 100, 0, 22, 100, 0);
        order("begins at hour 23", y, 0, 0, 1);
        BeetHouse z = heaps(1, 23, 100, 0, 23, 100, 0);
        z.hours(22);
        z.table(5, 0);
        z.hours(1);
        z.table(5, 10);
        z.works(1, 1);
        order("now is hour 24: begins at 47", z, 0, 0, 1);
    }

    private static void cutUp() {
        BeetHouse x = heaps(2, 45, 100, 0, 45, 100, 0);
        order("45 by 2 is 23 hours", x, 45, 0, 1);
        BeetHouse y = heaps(2, 44, 100, 0, 44, 100, 0);
        order("44 by 2 is 22 hours", y, 0, 0, 1);
        BeetHouse z = heaps(2, 44, 100, 0, 23, 100, 1);
        order("a stony one lasts 23 hours", z, 0, 0, 1);
        BeetHouse w = heaps(2, 46, 100, 0, 22, 100, 1);
        order("a stony one of 22 first", w, 0, 1, 0);
    }

    private static void lastHour() {
        BeetHouse x = heaps(1, 100, 100, 0, 100, 100, 0);
        x.table(5, 0);
        x.works(1, 0);
        x.hours(2370);
        x.works(1, 1);
        x.table(5, 10);
        order("two ends of days up to 2400, none behind", x, 100 + 99, 0, 1);
        x.warmth(98, 0);
        order("day 98", x, 100, 0, 1);
        x.warmth(99, 0);
        order("day 99", x, 0, 0, 1);
        x.hours(29);
        x.table(0, 100);
        order("at hour 2400", x, 0, 0, 1);
    }

    private static void asTheyAre() {
        BeetHouse x = heaps(1, 100, 100, 0, 100, 101, 0);
        order("the sweeter first", x, 100 + 99 + 98 + 97, 1, 0);
        x.cover(1, true);
        order("a covered one can wait", x, 50 + 50 + 50 + 49, 0, 1);
        x.frost(true);
        order("a frozen one can wait longer", x, 0, 1, 0);
        x.frost(false);
        order("a thawed one first", x, 50 + 50 + 50 + 49, 0, 1);
        x.cover(0, true);
        order("covered or not", x, 50 + 50 + 50 + 49, 0, 1);
        x.cover(1, false);
        Due.is("best()", x.best(), 101 + 99 + 99 + 98);
        Due.is("order(0)", x.order(0), 0);
    }

    /** A heap that lasts long is best eaten last, though it has the most sugar. */
    private static void longWay() {
        BeetHouse x = heaps(1, 100, 100, 0, 5, 250, 0, 5, 249, 0, 5, 248, 0);
        order("three small ones first", x, 0, 1, 2, 3, 0);
        x.hours(10);
        order("at hour 11 one of them waits behind the long one", x, 12 + 12 + 12 + 12 + 11, 1, 2, 0, 3);
    }

    private static void oneRoot() {
        BeetHouse x = heaps(1, 1, 250, 0, 30, 50, 0);
        x.table(5, 100);
        order("a heap of one root", x, 0, 0, 1);
        x.hours(22);
        order("a heap of one root at hour 23", x, 25 + 22, 1, 0);
    }

    private static void eightHeaps() {
        BeetHouse x = new BeetHouse();
        for (int i = 0; i < 9; i++) {
            x.field(0, 24, 100 + 10 * i, 1, false);
        }
        for (int i = 0; i < 8; i++) {
            x.gang(0, 24, i);
            x.hours(1);
        }
        x.works(1, 1);
        x.table(5, 100);
        order("eight heaps", x, bruteForce(8), orderOfBruteForce(8));
        x.gang(0, 24, 8);
        x.works(1, 0);
        x.hours(1);
        x.works(1, 1);
        Due.is("best() of nine heaps", x.best(), -3);
        Due.is("order(0) of nine heaps", x.order(0), -3);
        Due.is("order(-1) of nine heaps", x.order(-1), -3);
        Due.is("count(13)", x.count(13), 3);
    }

    private static int least;
    private static int[] leastOrder;

    private static int bruteForce(int n) {
        least = Integer.MAX_VALUE;
        leastOrder = new int[n];
        permute(new int[n], 0, new boolean[n], 0);
        return least;
    }

    private static int[] orderOfBruteForce(int n) {
        bruteForce(n);
        return leastOrder.clone();
    }

    /** Each heap lasts a day, so the one at place k has seen k ends of days. */
    private static void permute(int[] order, int place, boolean[] used, int waste) {
        if (place == order.length) {
            if (waste < least) {
                least = waste;
                leastOrder = order.clone();
            }
            return;
        }
        for (int f = 0; f < order.length; f++) {
            if (!used[f]) {
                used[f] = true;
                order[place] = f;
                int sugar = 24 * (100 + 10 * f);
                int lost = 0;
                for (int days = 0; days < place; days++) {
                    lost += (sugar - lost) * 100 / 1000;
                }
                permute(order, place + 1, used, waste + lost);
                used[f] = false;
            }
        }
    }

    private static void refusals() {
        Consumer<BeetHouse> nine = b -> {
            for (int i = 0; i < 9; i++) {
                b.field(0, 10, 100, 1, false);
                b.gang(0, 10, i);
                b.hours(1);
            }
        };
        Due.refused("best() of nine heaps, RATE 0", nine, b -> b.best(), -3);
        Due.refused("best() of nine heaps", nine.andThen(b -> b.works(1, 3)), b -> b.best(), -3);
        Due.refused("order(0) of nine heaps", nine.andThen(b -> b.works(1, 3)), b -> b.order(0), -3);
        Due.refused("best() RATE 0", b -> b.field(0, 10, 100, 1, false), b -> b.best(), -3);
        Due.refused("order(0) RATE 0", b -> b.field(0, 10, 100, 1, false), b -> b.order(0), -3);
        Due.refused("order(-1) RATE 0", b -> b.field(0, 10, 100, 1, false), b -> b.order(-1), -3);
    }
}
