import java.util.function.Consumer;

/**
 * Each refusal that a promise names because of how things stand: the call answers it, nothing else changes, count(11) to
 * count(16) tell it, and of two the one that is told first comes. Those of numbers alone are in EdgeNumbersTest.
 */
public final class EdgeRefusalsTest {
    public static void main(String[] args) {
        fieldTooMany();
        lorryTooMany();
        send();
        turn();
        cover();
        frost();
        hours();
        best();
        order();
        looksAtNothing();
        counted();
        noneIsNoRefusal();
        Due.end();
    }

    private static void fieldTooMany() {
        Due.says("field: -6 16 FIELDS");
        Due.refused("the 17th", Busy::full, x -> x.field(0, 1, 50, 1, false), -6);
        Due.refused("the 17th, the greatest", Busy::full, x -> x.field(5, 5000, 250, 12, true), -6);
        Due.refused("the 17th, above 5000", Busy::full, x -> x.field(0, 5001, 50, 1, false), -6);
        Due.refused("the 17th, roots below 1", Busy::full, x -> x.field(0, 0, 50, 1, false), -4);
        Due.refused("the 17th, sweet below 50", Busy::full, x -> x.field(0, 1, 49, 1, false), -4);
        Due.refused("the 17th, way below 1", Busy::full, x -> x.field(0, 1, 50, 0, false), -4);
        Due.refused("the 17th, of nobody", Busy::full, x -> x.field(6, 1, 50, 1, false), -1);
        Due.refused("the 17th, of nobody, below", Busy::full, x -> x.field(-1, 0, 49, 0, false), -1);
    }

    private static void lorryTooMany() {
        Due.says("lorry: -4; -6 (8, too)");
        Due.refused("the 9th, the least", Busy::full, x -> x.lorry(1), -6);
        Due.refused("the 9th, the greatest", Busy::full, x -> x.lorry(100), -6);
        Due.refused("the 9th, above", Busy::full, x -> x.lorry(101), -6);
        Due.refused("the 9th, below", Busy::full, x -> x.lorry(0), -4);
    }

    /** In the busy state lorry 0 is OUT, 1 BACK, 2 WAITING. */
    private static void send() {
        Due.says("send: a HOME LORRY is sent to a FIELD. -1; -3");
        for (int lorry = 0; lorry <= 2; lorry++) {
            int l = lorry;
            for (int field = 0; field < 4; field++) {
                int f = field;
                Due.refused("send(" + l + ", " + f + ")", Busy::thawed, x -> x.send(l, f), -3);
            }
            Due.refused("send(" + l + ", 4): nobody before state", Busy::thawed, x -> x.send(l, 4), -1);
            Due.refused("send(" + l + ", -1): nobody before state", Busy::thawed, x -> x.send(l, -1), -1);
        }
        Consumer<BeetHouse> lorryOnly = x -> x.lorry(5);
        Consumer<BeetHouse> fieldOnly = x -> x.field(0, 9, 90, 9, true);
        Due.refused("send(0, 0) without a FIELD", lorryOnly, x -> x.send(0, 0), -1);
        Due.refused("send(0, 0) without a LORRY", fieldOnly, x -> x.send(0, 0), -1);
        Due.refused("send(0, 0) without either", x -> { }, x -> x.send(0, 0), -1);
    }

    private static void turn() {
        Due.says("turn: -3 no LORRY is HOME");
        Consumer<BeetHouse> noneHome = x -> {
            Busy.thawed(x);
            x.send(3, 3);
        };
        Due.refused("turn() with OUT, BACK, WAITING, OUT", noneHome, x -> x.turn(), -3);
        Due.refused("turn() with eight OUT", Busy::full, x -> x.turn(), -3);
        Due.refused("turn() without a LORRY, with a NEXT", x -> {
            x.field(0, 9, 90, 9, true);
            x.gang(0, 9, 0);
            x.hours(1);
        }, x -> x.turn(), -3);
        Due.refused("turn() without a LORRY, without a NEXT", x -> { }, x -> x.turn(), -3);
        Due.refused("turn() with none HOME, without a NEXT", x -> {
            x.field(0, 9, 90, 9, true);
            x.lorry(3);
            x.send(0, 0);
        }, x -> x.turn(), -3);
    }

    private static void cover() {
        Due.says("cover: -3 it has no ROOTS, or is FROZEN");
        for (int i = 0; i <= 1; i++) {
            boolean on = i == 1;
            Due.refused("cover(3, " + on + ") of no ROOTS", Busy::thawed, x -> x.cover(3, on), -3);
            Due.refused("cover(0, " + on + ") of a FROZEN one", Busy::frosty, x -> x.cover(0, on), -3);
            Due.refused("cover(1, " + on + ") of one FROZEN that was THAWED", Busy::frosty, x -> x.cover(1, on), -3);
            Due.refused("cover(4, " + on + ") of none in frost", Busy::frosty, x -> x.cover(4, on), -1);
            Due.refused("cover(0, " + on + ") without a FIELD", x -> { }, x -> x.cover(0, on), -1);
            Due.refused("cover(0, " + on + ") of one emptied in frost", EdgeRefusalsTest::emptiedInFrost, x -> x.cover(0, on), -3);
            Due.refused("cover(0, " + on + ") of a COVERED one that was emptied", EdgeRefusalsTest::emptiedCovered, x -> x.cover(0, on), -3);
            Due.refused("cover(0, " + on + ") of a SPOILED one", EdgeRefusalsTest::spoiled, x -> x.cover(0, on), -3);
        }
        BeetHouse x = new BeetHouse();
        Busy.frosty(x);
        Due.is("cover(2, true) of a COVERED one in frost: 0 if it was so", x.cover(2, true), 0);
        Due.is("cover(2, false) of it", x.cover(2, false), 1);
        Due.is("cover(2, false) again", x.cover(2, false), 0);
        Due.is("fieldOf(2, 4) it is not FROZEN: frost began before", x.fieldOf(2, 4), 0);
        Due.is("cover(2, true)", x.cover(2, true), 1);
        Due.refusals("cover of one that is not FROZEN", x);
    }

    private static void emptiedInFrost(BeetHouse x) {
        oneHeap(x);
        x.frost(true);
        x.send(0, 0);
        x.hours(1);
    }

    private static void emptiedCovered(BeetHouse x) {
        oneHeap(x);
        x.cover(0, true);
        x.send(0, 0);
        x.hours(1);
    }

    private static void spoiled(BeetHouse x) {
        oneHeap(x);
        x.frost(true);
        x.frost(false);
        x.cover(0, true);
        x.hours(72);
    }

    private static void oneHeap(BeetHouse x) {
        x.field(0, 9, 90, 1, false);
        x.gang(0, 9, 0);
        x.lorry(9);
        x.hours(1);
    }

    private static void frost() {
        Due.says("frost: -3 it is so");
        Due.refused("frost(false) of a new one", x -> { }, x -> x.frost(false), -3);
        Due.refused("frost(true) without heaps, again", x -> x.frost(true), x -> x.frost(true), -3);
        Due.refused("frost(false) that has ended", Busy::thawed, x -> x.frost(false), -3);
        Due.refused("frost(true) in frost", Busy::frosty, x -> x.frost(true), -3);
        Consumer<BeetHouse> laidInFrost = x -> {
            Busy.frosty(x);
            x.cover(2, false);
        };
        Due.refused("frost(true) again freezes no heap that was uncovered", laidInFrost, x -> x.frost(true), -3);
    }

    private static void hours() {
        Due.says("hours: -4; -6 above 2400 in all");
        Due.refused("hours(1) at hour 2400", Busy::last, x -> x.hours(1), -6);
        Due.refused("hours(0) at hour 2400", Busy::last, x -> x.hours(0), -4);
        Due.refused("hours(2) at hour 2399", x -> x.hours(2399), x -> x.hours(2), -6);
        Due.refused("hours(2401) at hour 0", x -> { }, x -> x.hours(2401), -6);
    }

    private static void best() {
        Due.says("best: -3 more than 8 HEAPS, or RATE 0");
        Consumer<BeetHouse> noRate = x -> {
            Busy.thawed(x);
            x.works(1, 0);
        };
        Due.refused("best() RATE 0", noRate, x -> x.best(), -3);
        Due.refused("best() RATE 0 of a new one", x -> { }, x -> x.best(), -3);
        Due.refused("best() 16 HEAPS", Busy::full, x -> x.best(), -3);
        Due.refused("best() 9 HEAPS", x -> heaps(x, 9, 1), x -> x.best(), -3);
        Due.refused("best() 9 HEAPS and RATE 0", x -> heaps(x, 9, 0), x -> x.best(), -3);
        Due.refused("best() 8 HEAPS and RATE 0", x -> heaps(x, 8, 0), x -> x.best(), -3);
        BeetHouse eight = new BeetHouse();
        heaps(eight, 8, 1);
        Due.is("best() 8 HEAPS", eight.best(), 0);
        Due.refusals("best() 8 HEAPS", eight);
    }

    private static void order() {
        Due.says("order: -3 as best()");
        int[] places = {Integer.MIN_VALUE, -1, 0, 7, 8, 9, Integer.MAX_VALUE};
        for (int i : places) {
            Due.refused("order(" + i + ") RATE 0", x -> heaps(x, 8, 0), x -> x.order(i), -3);
            Due.refused("order(" + i + ") RATE 0, no HEAP", x -> { }, x -> x.order(i), -3);
            Due.refused("order(" + i + ") 9 HEAPS", x -> heaps(x, 9, 1), x -> x.order(i), -3);
            Due.refused("order(" + i + ") 16 HEAPS", Busy::full, x -> x.order(i), -3);
        }
    }

    /** So many heaps of one root, and one field that has none. */
    private static void heaps(BeetHouse x, int n, int rate) {
        x.field(0, 1, 50, 1, false);
        for (int f = 1; f <= n; f++) {
            x.field(f % 6, 1, 50 + f, 1, false);
            x.gang(0, 1, f);
            x.hours(1);
        }
        x.works(1, rate);
        x.table(5, 100);
    }

    private static void looksAtNothing() {
        Due.says("fieldOf, lorryOf: -1; -2");
        int[] whats = {-1, 0, 6, 7, 10, 11};
        for (int what : whats) {
            Due.refused("fieldOf(0, " + what + ") without a FIELD", x -> x.lorry(1), x -> x.fieldOf(0, what), -1);
            Due.refused("lorryOf(0, " + what + ") without a LORRY", x -> x.field(0, 1, 50, 1, false), x -> x.lorryOf(0, what), -1);
            Due.refused("fieldOf(16, " + what + ")", Busy::full, x -> x.fieldOf(16, what), -1);
            Due.refused("lorryOf(8, " + what + ")", Busy::full, x -> x.lorryOf(8, what), -1);
        }
        Due.refused("fieldOf(15, 11)", Busy::full, x -> x.fieldOf(15, 11), -2);
        Due.refused("lorryOf(7, 7)", Busy::full, x -> x.lorryOf(7, 7), -2);
    }

    private static void counted() {
        Due.says("count: 11 .. 16 REFUSALS -1 .. -6");
        BeetHouse x = new BeetHouse();
        Consumer<BeetHouse> nobody = b -> b.coins(6);
        Consumer<BeetHouse> other = b -> b.price(10, 0);
        Consumer<BeetHouse> state = b -> b.turn();
        Consumer<BeetHouse> below = b -> b.hours(0);
        Consumer<BeetHouse> room = b -> b.lorry(101);
        int[] due = new int[6];
        for (int round = 1; round <= 5; round++) {
            times(x, round, nobody);
            times(x, round + 1, other);
            times(x, round + 2, state);
            times(x, round + 3, below);
            times(x, round + 4, room);
            for (int i = 0; i < 6; i++) {
                due[i] += i == 4 ? 0 : i == 5 ? round + 4 : round + i;
            }
            Due.refusals("round " + round, x, due);
        }
        x.hours(2400);
        Due.refusals("hours later", x, due);
    }

    private static void times(BeetHouse x, int n, Consumer<BeetHouse> call) {
        for (int i = 0; i < n; i++) {
            call.accept(x);
        }
    }

    private static void noneIsNoRefusal() {
        Due.says("REFUSALS are -1 .. -6: -9 and 0 are none");
        BeetHouse x = new BeetHouse();
        x.field(0, 9, 90, 9, true);
        x.lorry(3);
        x.works(1, 1);
        Due.is("turn()", x.turn(), -9);
        Due.is("next()", x.next(), -9);
        Due.is("best()", x.best(), 0);
        Due.is("order(0)", x.order(0), -9);
        Due.is("order(-1)", x.order(-1), -9);
        Due.is("fieldOf(0, 5)", x.fieldOf(0, 5), -9);
        Due.is("lorryOf(0, 1)", x.lorryOf(0, 1), -9);
        Due.is("lorryOf(0, 2)", x.lorryOf(0, 2), -9);
        Due.is("load(0, 0)", x.load(0, 0), -9);
        Due.is("load(0, 3)", x.load(0, 3), -9);
        Due.is("count(10)", x.count(10), -9);
        Due.is("count(18)", x.count(18), -9);
        x.gang(0, 9, 0);
        x.hours(1);
        Due.is("cover(0, false)", x.cover(0, false), 0);
        Due.refusals("-9 and 0", x);
    }
}
