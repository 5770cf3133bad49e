import java.util.function.Consumer;

/** Promises 7, 15, 16: whose turn it is, which field, and what a farmer is owed. */
public final class TurnsTest {
    public static void main(String[] args) {
        owed();
        nextByOwed();
        nextOfEqualsInAnyOrder();
        nextBySpareRoots();
        turnBySugar();
        turnTakesTheFirstHome();
        refusals();
        Due.end();
    }

    private static void owed() {
        BeetHouse x = new BeetHouse();
        x.field(0, 30, 100, 1, false);
        x.field(0, 10, 100, 1, false);
        x.field(5, 20, 100, 1, false);
        for (int g = 0; g < 3; g++) {
            x.gang(g, 30, g);
            x.lorry(100);
            x.send(g, g);
        }
        x.share(0, 600);
        x.share(5, 400);
        x.share(3, 1000);
        x.hours(1);
        Due.is("owed(0) while it is on the way", x.owed(0), 1000000000);
        x.hours(1);
        Due.is("owed(0)", x.owed(0), 1000000000 + 600 * 60 - 40000);
        Due.is("owed(5)", x.owed(5), 1000000000 + 400 * 60 - 20000);
        Due.is("owed(3)", x.owed(3), 1000000000 + 60000);
        Due.is("owed(1)", x.owed(1), 1000000000);
        x.share(5, 0);
        Due.is("owed(5) without a share", x.owed(5), 1000000000 - 20000);
        x.works(1, 300);
        x.hours(5);
        Due.is("owed(3) when all is eaten", x.owed(3), 1000000000 + 60000);
    }

    private static void nextByOwed() {
        BeetHouse x = new BeetHouse();
        x.field(4, 100, 100, 1, false);
        x.field(2, 100, 100, 1, false);
        Due.is("next() no roots in a heap", x.next(), -9);
        x.gang(0, 50, 0);
        x.gang(1, 50, 1);
        x.hours(1);
        Due.is("next() equal: the least number", x.next(), 2);
        x.share(4, 1);
        Due.is("next() a share of nothing", x.next(), 2);
        x.lorry(10);
        x.send(0, 1);
        x.hours(2);
        Due.is("owed(4)", x.owed(4), 1000000010);
        Due.is("owed(2)", x.owed(2), 999990000);
        Due.is("next() the greatest", x.next(), 4);
        x.share(0, 1000);
        Due.is("next() one without a heap does not count", x.next(), 4);
        x.share(2, 1000);
        Due.is("owed(2)", x.owed(2), 1000000000);
        Due.is("next() still the greatest", x.next(), 4);
        x.share(4, 0);
        Due.is("next() equal again", x.next(), 2);
    }

    private static void nextOfEqualsInAnyOrder() {
        int[][] farmers = {{2, 4, 3}, {4, 3, 2}, {3, 2, 4}};
        for (int[] f : farmers) {
            BeetHouse x = new BeetHouse();
            for (int i = 0; i < 3; i++) {
                x.field(f[i], 100, 100, 1, false);
                x.gang(i, 50, i);
            }
            x.hours(1);
            Due.is("next() of equals", x.next(), 2);
            x.lorry(1);
            Due.is("turn() of equals", x.fieldOf(x.turn(), 9), 2);
        }
    }

    private static void nextBySpareRoots() {
        BeetHouse x = new BeetHouse();
        x.field(1, 20, 100, 3, false);
        x.gang(0, 20, 0);
        x.hours(1);
        x.lorry(10);
        x.lorry(9);
        x.lorry(1);
        x.send(0, 0);
        Due.is("next() with 10 of 20 taken", x.next(), 1);
        x.send(1, 0);
        Due.is("next() with 19 of 20 taken", x.next(), 1);
        x.send(2, 0);
        Due.is("next() with 20 of 20 taken", x.next(), -9);
        x.hours(3);
        Due.is("fieldOf(0, 1)", x.fieldOf(0, 1), 0);
        Due.is("next() with an empty heap", x.next(), -9);
        x.field(1, 20, 100, 1, false);
        x.gang(1, 20, 1);
        x.hours(1);
        Due.is("next() lorries that come BACK take none", x.next(), 1);
    }

    private static void turnBySugar() {
        BeetHouse x = new BeetHouse();
        x.field(0, 100, 250, 2, false);
        x.field(1, 10, 100, 3, false);
        x.field(1, 20, 100, 5, true);
        x.field(1, 10, 200, 4, false);
        for (int g = 0; g < 4; g++) {
            x.gang(g, 100, g);
        }
        x.lorry(10);
        x.lorry(10);
        x.lorry(20);
        x.lorry(5);
        x.hours(1);
        x.lorry(50);
        x.send(4, 0);
        x.hours(4);
        x.share(1, 500);
        Due.is("next()", x.next(), 1);
        Due.is("turn() equal sugar: the least number", x.turn(), 2);
        Due.is("lorryOf(0, 1)", x.lorryOf(0, 1), 2);
        Due.is("lorryOf(0, 2)", x.lorryOf(0, 2), 10);
        Due.is("turn() 10 roots to spare there", x.turn(), 2);
        Due.is("turn() none to spare there", x.turn(), 3);
        Due.is("lorryOf(2, 2)", x.lorryOf(2, 2), 9);
        Due.is("turn()", x.turn(), 1);
        Due.is("lorryOf(3, 2)", x.lorryOf(3, 2), 8);
        Due.is("turn() 5 left, but the lorry is sent there again", x.turn(), 1);
        Due.is("lorryOf(4, 1)", x.lorryOf(4, 1), 1);
        Due.is("turn() no lorry", x.turn(), -3);
    }

    private static void turnTakesTheFirstHome() {
        BeetHouse x = new BeetHouse();
        x.field(3, 100, 100, 1, false);
        x.gang(0, 100, 0);
        x.hours(1);
        x.lorry(1);
        x.lorry(2);
        x.lorry(3);
        x.send(0, 0);
        x.send(2, 0);
        Due.is("turn()", x.turn(), 0);
        Due.is("lorryOf(1, 0)", x.lorryOf(1, 0), 1);
        Due.is("turn()", x.turn(), -3);
        Due.is("count(13)", x.count(13), 1);
    }

    private static void refusals() {
        Consumer<BeetHouse> none = b -> { };
        Due.refused("turn() without a lorry", none, b -> b.turn(), -3);
        Due.refused("turn() without a lorry at home", b -> {
            b.field(0, 50, 100, 2, false);
            b.gang(0, 50, 0);
            b.hours(1);
            b.lorry(10);
            b.send(0, 0);
        }, b -> b.turn(), -3);
        int[] nobody = {-1, 6, Integer.MIN_VALUE, Integer.MAX_VALUE};
        for (int f : nobody) {
            Due.refused("owed(" + f + ")", none, b -> b.owed(f), -1);
        }
        BeetHouse x = new BeetHouse();
        x.lorry(1);
        Due.is("turn() no NEXT", x.turn(), -9);
        Due.is("next() none", x.next(), -9);
        for (int what = 11; what <= 16; what++) {
            Due.is("count(" + what + ") -9 is no refusal", x.count(what), 0);
        }
        Due.is("lorryOf(0, 0)", x.lorryOf(0, 0), 0);
    }
}
