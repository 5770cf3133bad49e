import java.util.function.Consumer;

/** Promise 14: the order of what happens in an hour, the lorries, the yard, PAID and the works. */
public final class HoursTest {
    public static void main(String[] args) {
        loadsTakeTheirShare();
        oneRoot();
        inOneHour();
        drowned();
        emptyLorryWaitsToo();
        paidByStep();
        stonyUnits();
        severalLoadsInAnHour();
        lackAndStanding();
        refusals();
        Due.end();
    }

    /** SUGAR goes with the roots, cut; the last roots take what is left. */
    private static void loadsTakeTheirShare() {
        BeetHouse x = new BeetHouse();
        x.field(0, 7, 101, 1, false);
        x.table(5, 9);
        x.gang(0, 7, 0);
        x.hours(24);
        Due.is("fieldOf(0, 2)", x.fieldOf(0, 2), 701);
        x.lorry(3);
        x.lorry(2);
        x.lorry(9);
        x.send(0, 0);
        x.send(1, 0);
        x.send(2, 0);
        x.hours(1);
        Due.is("lorryOf(0, 3)", x.lorryOf(0, 3), 3);
        Due.is("lorryOf(0, 4)", x.lorryOf(0, 4), 300);
        Due.is("lorryOf(1, 4)", x.lorryOf(1, 4), 200);
        Due.is("lorryOf(2, 3)", x.lorryOf(2, 3), 2);
        Due.is("lorryOf(2, 4)", x.lorryOf(2, 4), 201);
        Due.is("fieldOf(0, 2)", x.fieldOf(0, 2), 0);
        x.hours(1);
        int[][] loads = {{0, 3, 300}, {0, 2, 200}, {0, 2, 201}};
        for (int i = 0; i < 3; i++) {
            for (int what = 0; what < 3; what++) {
                Due.is("load(" + i + ", " + what + ")", x.load(i, what), loads[i][what]);
            }
        }
        Due.is("load(3, 0)", x.load(3, 0), -9);
        Due.is("fieldOf(0, 8)", x.fieldOf(0, 8), 7);
    }

    private static void oneRoot() {
        BeetHouse x = new BeetHouse();
        x.field(1, 1, 99, 1, false);
        x.gang(0, 1, 0);
        x.price(3, 7);
        x.lorry(1);
        x.hours(1);
        Due.is("frost(true)", x.frost(true), 1);
        Due.is("frost(false)", x.frost(false), 1);
        Due.is("next()", x.next(), 1);
        Due.is("turn()", x.turn(), 0);
        x.hours(1);
        Due.is("lorryOf(0, 4)", x.lorryOf(0, 4), 99);
        x.hours(1);
        Due.is("coins(1)", x.coins(1), 7);
        Due.is("load(0, 2)", x.load(0, 2), 99);
        x.send(0, 0);
        x.hours(1);
        Due.is("lorryOf(0, 3) of an empty heap", x.lorryOf(0, 3), 0);
        Due.is("lorryOf(0, 4) of an empty heap", x.lorryOf(0, 4), 0);
    }

    /** Lifted, taken; back, unloaded, eaten: each pair within one hour. */
    private static void inOneHour() {
        BeetHouse x = new BeetHouse();
        x.field(0, 5, 100, 1, false);
        x.gang(3, 5, 0);
        x.works(1, 2);
        x.lorry(5);
        x.send(0, 0);
        x.hours(1);
        Due.is("lorryOf(0, 3) lifted before it is taken", x.lorryOf(0, 3), 5);
        Due.is("hours(1) unloaded before it is eaten", x.hours(1), 2);
        Due.is("lorryOf(0, 0)", x.lorryOf(0, 0), 0);
        Due.is("load(0, 1)", x.load(0, 1), 3);
        Due.is("load(0, 2) sugar goes with the last root", x.load(0, 2), 500);
        Due.is("count(5)", x.count(5), 0);
        Due.is("hours(2)", x.hours(2), 3);
        Due.is("count(5)", x.count(5), 500);
        Due.is("load(0, 0)", x.load(0, 0), -9);
    }

    private static void drowned() {
        BeetHouse x = new BeetHouse();
        x.field(0, 100, 100, 1, false);
        x.gang(0, 100, 0);
        x.works(0, 10);
        x.lorry(11);
        x.lorry(10);
        x.send(1, 0);
        x.hours(1);
        x.send(0, 0);
        x.hours(1);
        Due.is("lorryOf(1, 0) just room", x.lorryOf(1, 0), 0);
        Due.is("lorryOf(1, 5)", x.lorryOf(1, 5), 0);
        x.works(1, 10);
        x.hours(1);
        Due.is("lorryOf(0, 0) no room: eaten behind that", x.lorryOf(0, 0), 3);
        Due.is("lorryOf(0, 1)", x.lorryOf(0, 1), 0);
        Due.is("lorryOf(0, 2)", x.lorryOf(0, 2), -9);
        Due.is("lorryOf(0, 3)", x.lorryOf(0, 3), 11);
        Due.is("lorryOf(0, 4)", x.lorryOf(0, 4), 1100);
        Due.is("lorryOf(0, 5)", x.lorryOf(0, 5), 1);
        x.hours(3);
        Due.is("lorryOf(0, 5) too large for the room", x.lorryOf(0, 5), 4);
        x.send(1, 0);
        x.hours(2);
        Due.is("lorryOf(1, 0) kept waiting", x.lorryOf(1, 0), 3);
        Due.is("lorryOf(1, 5)", x.lorryOf(1, 5), 1);
        x.works(0, 11);
        x.hours(1);
        Due.is("lorryOf(0, 0)", x.lorryOf(0, 0), 0);
        Due.is("lorryOf(0, 6)", x.lorryOf(0, 6), 1);
        Due.is("lorryOf(1, 0) now there is no room for it", x.lorryOf(1, 0), 3);
        Due.is("lorryOf(1, 5)", x.lorryOf(1, 5), 2);
        x.hours(1);
        Due.is("lorryOf(1, 0)", x.lorryOf(1, 0), 0);
        Due.is("lorryOf(1, 6)", x.lorryOf(1, 6), 2);
        Due.is("lorryOf(0, 5) stays", x.lorryOf(0, 5), 6);
    }

    /** Without roots there is always room, but one before it keeps it waiting. */
    private static void emptyLorryWaitsToo() {
        BeetHouse x = new BeetHouse();
        x.field(0, 10, 100, 1, false);
        x.field(0, 10, 100, 1, false);
        x.gang(0, 10, 0);
        x.works(0, 0);
        x.lorry(5);
        x.lorry(5);
        x.lorry(5);
        x.send(0, 1);
        x.send(1, 0);
        x.send(2, 1);
        x.hours(2);
        Due.is("lorryOf(0, 0) none always find room", x.lorryOf(0, 0), 0);
        Due.is("lorryOf(0, 6)", x.lorryOf(0, 6), 0);
        Due.is("lorryOf(1, 0)", x.lorryOf(1, 0), 3);
        Due.is("lorryOf(2, 0)", x.lorryOf(2, 0), 3);
        Due.is("lorryOf(2, 5)", x.lorryOf(2, 5), 1);
        x.works(0, 5);
        x.hours(1);
        Due.is("lorryOf(2, 0)", x.lorryOf(2, 0), 0);
        Due.is("load(1, 0)", x.load(1, 0), -9);
    }

    private static void paidByStep() {
        int[][] steps = {{50, 2}, {74, 2}, {75, 3}, {224, 8}, {225, 9}, {249, 9}, {250, 9}};
        for (int[] s : steps) {
            BeetHouse x = new BeetHouse();
            x.field(4, 3, s[0], 1, false);
            x.gang(0, 3, 0);
            x.lorry(3);
            x.send(0, 0);
            for (int step = 0; step < 10; step++) {
                x.price(step, 100 + step);
            }
            x.hours(1);
            Due.is("coins(4) not yet", x.coins(4), 0);
            x.hours(1);
            Due.is("coins(4) of sweet " + s[0], x.coins(4), 3 * (100 + s[1]));
            Due.is("coins(0)", x.coins(0), 0);
        }
        paidForWhatIsLeft();
    }

    private static void paidForWhatIsLeft() {
        BeetHouse x = new BeetHouse();
        x.field(4, 10, 50, 1, false);
        x.gang(0, 10, 0);
        x.table(5, 100);
        x.hours(24 * 8);
        Due.is("fieldOf(0, 2)", x.fieldOf(0, 2), 218);
        x.price(0, 1000);
        x.price(1, 1);
        x.lorry(9);
        x.send(0, 0);
        x.hours(2);
        Due.is("coins(4) 196 by 9 is 21, by 25 is 0", x.coins(4), 9000);
        x.price(0, 1);
        Due.is("coins(4) what is paid is paid", x.coins(4), 9000);
    }

    private static void stonyUnits() {
        BeetHouse x = new BeetHouse();
        x.field(0, 2, 100, 1, true);
        x.field(0, 3, 100, 1, false);
        x.gang(0, 2, 0);
        x.gang(1, 3, 1);
        x.lorry(2);
        x.lorry(3);
        x.send(0, 0);
        x.hours(1);
        x.send(1, 1);
        x.works(1, 1);
        x.hours(2);
        Due.is("load(0, 0)", x.load(0, 0), 0);
        Due.is("load(1, 0)", x.load(1, 0), 1);
        Due.is("hours(5) a unit is too little for a stony one", x.hours(5), 0);
        Due.is("count(3)", x.count(3), 5);
        Due.is("count(6) it does not stand", x.count(6), 1);
        x.works(1, 5);
        Due.is("hours(1) two stony ones, one other", x.hours(1), 3);
        Due.is("load(0, 0)", x.load(0, 0), 1);
        Due.is("load(0, 1)", x.load(0, 1), 2);
        Due.is("count(5)", x.count(5), 200);
        Due.is("hours(1)", x.hours(1), 2);
        Due.is("count(7)", x.count(7), 4);
        Due.is("count(6)", x.count(6), 2);
    }

    private static void severalLoadsInAnHour() {
        BeetHouse x = new BeetHouse();
        x.field(1, 8, 100, 1, false);
        x.gang(0, 8, 0);
        for (int i = 0; i < 8; i++) {
            x.lorry(1);
            x.send(i, 0);
        }
        x.works(1, 5);
        Due.is("hours(2)", x.hours(2), 5);
        Due.is("count(3)", x.count(3), 3);
        Due.is("count(4)", x.count(4), 5);
        Due.is("count(5)", x.count(5), 500);
        Due.is("load(2, 1)", x.load(2, 1), 1);
        Due.is("load(3, 1)", x.load(3, 1), -9);
        Due.is("hours(3)", x.hours(3), 3);
        Due.is("count(4)", x.count(4), 8);
    }

    private static void lackAndStanding() {
        BeetHouse x = new BeetHouse();
        x.field(0, 20, 100, 1, false);
        x.gang(0, 20, 0);
        x.lorry(10);
        x.send(0, 0);
        x.hours(1);
        Due.is("count(6) with RATE 0", x.count(6), 0);
        x.works(1, 10);
        Due.is("hours(1)", x.hours(1), 10);
        Due.is("count(6) eaten to the last unit", x.count(6), 0);
        Due.is("count(7)", x.count(7), 0);
        x.hours(1);
        Due.is("count(6)", x.count(6), 1);
        Due.is("count(7)", x.count(7), 10);
        x.works(1, 7);
        x.send(0, 0);
        x.hours(3);
        Due.is("count(6) three of ten left", x.count(6), 3);
        Due.is("count(7)", x.count(7), 10 + 7 + 4);
        x.works(1, 0);
        x.hours(10);
        Due.is("count(6) never with RATE 0", x.count(6), 3);
    }

    private static void refusals() {
        Consumer<BeetHouse> late = b -> b.hours(2390);
        int[][] wrong = {{0, -4}, {-1, -4}, {Integer.MIN_VALUE, -4}, {11, -6}, {2400, -6}, {Integer.MAX_VALUE, -6}};
        for (int[] w : wrong) {
            Due.refused("hours(" + w[0] + ")", late, b -> b.hours(w[0]), w[1]);
        }
        BeetHouse x = new BeetHouse();
        Due.is("hours(2401)", x.hours(2401), -6);
        Due.is("hours(2399)", x.hours(2399), 0);
        Due.is("hours(2)", x.hours(2), -6);
        Due.is("hours(1)", x.hours(1), 0);
        Due.is("count(0)", x.count(0), 2400);
        Due.is("hours(1)", x.hours(1), -6);
        Due.is("hours(0)", x.hours(0), -4);
    }
}
