/** Promises 2, 8, 9, 10, 11: the numbers that are set: what they were, their edges and their refusals. */
public final class NumbersTest {
    private static final int LOW = Integer.MIN_VALUE;
    private static final int HIGH = Integer.MAX_VALUE;

    public static void main(String[] args) {
        share();
        works();
        table();
        warmth();
        price();
        roomStays();
        Due.end();
    }

    private static void share() {
        BeetHouse x = new BeetHouse();
        Due.is("share(0, 1000)", x.share(0, 1000), 0);
        Due.is("share(5, 3)", x.share(5, 3), 0);
        Due.is("share(0, 0)", x.share(0, 0), 1000);
        Due.is("share(5, 4)", x.share(5, 4), 3);
        int[][] wrong = {{-1, 0, -1}, {6, 0, -1}, {LOW, -1, -1}, {HIGH, 1001, -1}, {6, -1, -1},
            {0, -1, -4}, {5, LOW, -4}, {0, 1001, -6}, {5, HIGH, -6}};
        for (int[] w : wrong) {
            Due.refused("share(" + w[0] + ", " + w[1] + ")", b -> b.share(0, 12), b -> b.share(w[0], w[1]), w[2]);
        }
    }

    private static void works() {
        BeetHouse x = new BeetHouse();
        Due.is("works(0, 3000)", x.works(0, 3000), 500);
        Due.is("works(1, 300)", x.works(1, 300), 0);
        Due.is("works(0, 0)", x.works(0, 0), 3000);
        Due.is("works(1, 0)", x.works(1, 0), 300);
        Due.is("works(0, 9)", x.works(0, 9), 0);
        int[][] wrong = {{-1, 0, -2}, {2, 0, -2}, {2, -1, -2}, {LOW, 3001, -2}, {HIGH, 0, -2}, {0, -1, -4}, {1, -1, -4},
            {1, LOW, -4}, {0, 3001, -6}, {1, 301, -6}, {0, HIGH, -6}, {1, HIGH, -6}};
        for (int[] w : wrong) {
            Due.refused("works(" + w[0] + ", " + w[1] + ")", b -> b.works(1, 12), b -> b.works(w[0], w[1]), w[2]);
        }
    }

    private static void table() {
        BeetHouse x = new BeetHouse();
        Due.is("table(0, 100)", x.table(0, 100), 0);
        Due.is("table(9, 1)", x.table(9, 1), 0);
        Due.is("table(0, 0)", x.table(0, 0), 100);
        Due.is("table(9, 2)", x.table(9, 2), 1);
        int[][] wrong = {{-1, 0, -2}, {10, 0, -2}, {10, -1, -2}, {LOW, 101, -2}, {HIGH, 0, -2}, {0, -1, -4}, {9, LOW, -4},
            {0, 101, -6}, {9, HIGH, -6}};
        for (int[] w : wrong) {
            Due.refused("table(" + w[0] + ", " + w[1] + ")", b -> b.table(5, 12), b -> b.table(w[0], w[1]), w[2]);
        }
    }

    private static void warmth() {
        BeetHouse x = new BeetHouse();
        Due.is("warmth(0, 9)", x.warmth(0, 9), 5);
        Due.is("warmth(99, 0)", x.warmth(99, 0), 5);
        Due.is("warmth(0, 1)", x.warmth(0, 1), 9);
        Due.is("warmth(99, 5)", x.warmth(99, 5), 0);
        int[][] wrong = {{-1, 0, -1}, {100, 0, -1}, {100, -1, -1}, {LOW, 10, -1}, {HIGH, 0, -1}, {0, -1, -4}, {99, LOW, -4},
            {0, 10, -6}, {99, HIGH, -6}};
        for (int[] w : wrong) {
            Due.refused("warmth(" + w[0] + ", " + w[1] + ")", b -> b.warmth(0, 3), b -> b.warmth(w[0], w[1]), w[2]);
        }
    }

    private static void price() {
        BeetHouse x = new BeetHouse();
        Due.is("price(0, 1000)", x.price(0, 1000), 0);
        Due.is("price(9, 1)", x.price(9, 1), 0);
        Due.is("price(0, 0)", x.price(0, 0), 1000);
        Due.is("price(9, 2)", x.price(9, 2), 1);
        int[][] wrong = {{-1, 0, -2}, {10, 0, -2}, {10, -1, -2}, {LOW, 1001, -2}, {HIGH, 0, -2}, {0, -1, -4}, {9, LOW, -4},
            {0, 1001, -6}, {9, HIGH, -6}};
        for (int[] w : wrong) {
            Due.refused("price(" + w[0] + ", " + w[1] + ")", b -> b.price(9, 12), b -> b.price(w[0], w[1]), w[2]);
        }
    }

    /** ROOM below what lies in THE YARD: what lies there stays, and nothing with roots comes. */
    private static void roomStays() {
        BeetHouse x = new BeetHouse();
        x.field(0, 100, 100, 1, false);
        x.gang(0, 100, 0);
        x.lorry(50);
        x.lorry(1);
        x.send(0, 0);
        x.hours(2);
        Due.is("count(3)", x.count(3), 50);
        Due.is("works(0, 49)", x.works(0, 49), 500);
        Due.is("count(3) still", x.count(3), 50);
        Due.is("load(0, 1) still", x.load(0, 1), 50);
        x.send(1, 0);
        x.hours(2);
        Due.is("lorryOf(1, 0) drowned", x.lorryOf(1, 0), 3);
        x.works(0, 50);
        x.hours(1);
        Due.is("lorryOf(1, 0) no room for one more", x.lorryOf(1, 0), 3);
        x.works(0, 51);
        x.hours(1);
        Due.is("lorryOf(1, 0) just room", x.lorryOf(1, 0), 0);
        Due.is("count(3) full", x.count(3), 51);
    }
}
