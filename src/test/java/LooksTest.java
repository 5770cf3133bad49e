import java.util.function.Consumer;

/** Promises 19 to 23: the calls that only look, and what they refuse. */
public final class LooksTest {
    private static final int LOW = Integer.MIN_VALUE;
    private static final int HIGH = Integer.MAX_VALUE;

    public static void main(String[] args) {
        fieldOf();
        lorryOf();
        load();
        coins();
        count();
        refusals();
        Due.end();
    }

    private static void field(BeetHouse x, int f, int... due) {
        for (int what = 0; what < due.length; what++) {
            Due.is("fieldOf(" + f + ", " + what + ") at hour " + x.count(0), x.fieldOf(f, what), due[what]);
        }
    }

    private static void lorry(BeetHouse x, int l, int... due) {
        for (int what = 0; what < due.length; what++) {
            Due.is("lorryOf(" + l + ", " + what + ") at hour " + x.count(0), x.lorryOf(l, what), due[what]);
        }
    }

    private static void fieldOf() {
        BeetHouse x = new BeetHouse();
        x.field(3, 100, 200, 2, false);
        x.gang(0, 30, 0);
        x.table(5, 50);
        x.lorry(10);
        x.lorry(20);
        x.hours(2);
        field(x, 0, 40, 60, 12000, 0, 0, -9, 0, 0, 0, 3, 0);
        x.gang(0, 0, 0);
        x.send(0, 0);
        x.send(1, 0);
        x.cover(0, true);
        field(x, 0, 40, 60, 12000, 1, 0, -9, 0, 0, 0, 3, 2);
        x.hours(2);
        field(x, 0, 40, 30, 6000, 1, 0, -9, 0, 0, 0, 3, 0);
        x.hours(2);
        field(x, 0, 40, 30, 6000, 1, 0, -9, 0, 0, 30, 3, 0);
        x.hours(18);
        field(x, 0, 40, 30, 5850, 1, 0, -9, 150, 0, 30, 3, 0);
        x.cover(0, false);
        x.frost(true);
        field(x, 0, 40, 30, 5850, 0, 1, -9, 150, 0, 30, 3, 0);
        x.hours(5);
        x.frost(false);
        field(x, 0, 40, 30, 5850, 0, 0, 29, 150, 0, 30, 3, 0);
        x.hours(72);
        field(x, 0, 40, 0, 0, 0, 0, -9, 150 + 877 + 745 + 634, 30, 30, 3, 0);
    }

    private static void lorryOf() {
        BeetHouse x = new BeetHouse();
        x.field(0, 5, 200, 12, false);
        x.field(3, 100, 200, 2, true);
        x.gang(0, 100, 1);
        x.lorry(10);
        lorry(x, 0, 0, -9, -9, 0, 0, 0, 0);
        x.send(0, 1);
        lorry(x, 0, 1, 1, 2, 0, 0, 0, 0);
        x.hours(2);
        lorry(x, 0, 2, 1, 5, 10, 2000, 0, 0);
        x.works(0, 9);
        x.hours(3);
        lorry(x, 0, 3, 1, -9, 10, 2000, 1, 0);
        x.hours(1);
        lorry(x, 0, 3, 1, -9, 10, 2000, 2, 0);
        x.works(0, 10);
        x.hours(1);
        lorry(x, 0, 0, -9, -9, 0, 0, 2, 1);
    }

    private static void load() {
        BeetHouse x = new BeetHouse();
        x.field(0, 50, 100, 1, false);
        x.field(1, 50, 200, 2, false);
        x.gang(0, 50, 0);
        x.gang(1, 50, 1);
        x.lorry(4);
        x.lorry(6);
        x.send(0, 1);
        x.send(1, 0);
        x.hours(4);
        int[][] due = {{0, 6, 600}, {1, 4, 800}};
        for (int i = 0; i < 2; i++) {
            for (int what = 0; what < 3; what++) {
                Due.is("load(" + i + ", " + what + ")", x.load(i, what), due[i][what]);
            }
        }
        int[][] none = {{2, 0}, {-1, 0}, {LOW, 0}, {HIGH, 0}, {0, 3}, {0, -1}, {0, LOW}, {0, HIGH}, {2, 3}};
        for (int[] n : none) {
            Due.is("load(" + n[0] + ", " + n[1] + ")", x.load(n[0], n[1]), -9);
        }
        x.works(1, 5);
        x.hours(1);
        Due.is("load(0, 1) what is left", x.load(0, 1), 1);
        Due.is("load(0, 2) all of it", x.load(0, 2), 600);
        x.works(1, 1);
        x.hours(1);
        Due.is("load(0, 0) the next has come up", x.load(0, 0), 1);
        Due.is("load(1, 0)", x.load(1, 0), -9);
        for (int what = 11; what <= 16; what++) {
            Due.is("count(" + what + ") -9 is no refusal", x.count(what), 0);
        }
    }

    private static void coins() {
        BeetHouse x = new BeetHouse();
        x.field(0, 10, 100, 1, false);
        x.field(5, 20, 200, 1, false);
        x.field(5, 30, 225, 1, false);
        x.price(4, 1);
        x.price(8, 10);
        x.price(9, 1000);
        for (int i = 0; i < 3; i++) {
            x.gang(i, 30, i);
            x.lorry(100);
            x.send(i, i);
        }
        x.hours(2);
        Due.is("coins(0)", x.coins(0), 10);
        Due.is("coins(5)", x.coins(5), 200 + 30000);
        Due.is("coins(1)", x.coins(1), 0);
    }

    private static void count() {
        BeetHouse x = new BeetHouse();
        x.field(0, 20, 100, 1, false);
        x.field(0, 10, 100, 1, false);
        x.lorry(15);
        x.gang(0, 20, 0);
        x.gang(1, 10, 1);
        x.send(0, 0);
        x.works(1, 5);
        x.table(5, 100);
        x.hours(24);
        x.frost(true);
        x.frost(false);
        x.hours(72);
        x.frost(true);
        int[] due = {96, 2, 1, 0, 15, 1500, 93, 465, 50 + 100 + 135 + 94 + 66 + 270 + 189 + 132, 15, -9, 0, 0, 0, 0, 0, 0, 1, -9};
        for (int what = 0; what < due.length; what++) {
            Due.is("count(" + what + ")", x.count(what), due[what]);
        }
        x.share(6, 0);
        x.works(2, 0);
        x.works(2, 0);
        for (int i = 0; i < 3; i++) {
            x.frost(true);
        }
        for (int i = 0; i < 4; i++) {
            x.hours(0);
        }
        for (int i = 0; i < 5; i++) {
            x.hours(9999);
        }
        int[] refusals = {1, 2, 3, 4, 0, 5};
        for (int i = 0; i < 6; i++) {
            Due.is("count(" + (11 + i) + ")", x.count(11 + i), refusals[i]);
        }
        int[] others = {-1, 10, 18, LOW, HIGH};
        for (int what : others) {
            Due.is("count(" + what + ")", x.count(what), -9);
        }
        Due.is("count(12) another what is no refusal", x.count(12), 2);
    }

    private static void refusals() {
        Consumer<BeetHouse> one = b -> {
            b.field(0, 20, 100, 1, false);
            b.lorry(15);
        };
        int[][] wrong = {{-1, 0, -1}, {1, 0, -1}, {LOW, -1, -1}, {HIGH, 11, -1}, {1, 99, -1}, {0, -1, -2}, {0, LOW, -2}, {0, HIGH, -2}};
        for (int[] w : wrong) {
            Due.refused("fieldOf(" + w[0] + ", " + w[1] + ")", one, b -> b.fieldOf(w[0], w[1]), w[2]);
            Due.refused("lorryOf(" + w[0] + ", " + w[1] + ")", one, b -> b.lorryOf(w[0], w[1]), w[2]);
        }
        Due.refused("fieldOf(0, 11)", one, b -> b.fieldOf(0, 11), -2);
        Due.refused("lorryOf(0, 7)", one, b -> b.lorryOf(0, 7), -2);
        int[] nobody = {-1, 6, LOW, HIGH};
        for (int f : nobody) {
            Due.refused("coins(" + f + ")", one, b -> b.coins(f), -1);
        }
    }
}
