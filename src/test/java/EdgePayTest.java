/** PAID, OWED, NEXT and TURN: the sentences that name an edge, each with a test of its own. */
public final class EdgePayTest {
    private static final int BASE = 1000000000;

    public static void main(String[] args) {
        stepsOfSweet();
        stepZero();
        stepOfTheLoad();
        rootsTimesPrice();
        paidWhenItComes();
        paidToTheFarmer();
        owedShare();
        owedOfRootsThatCame();
        owedEdges();
        nextMoreThan();
        nextOutOnly();
        nextGreatest();
        nextLeastNumber();
        nextWithoutShare();
        turnLeastLorry();
        turnMostSugar();
        turnSuchAHeap();
        turnOfNextOnly();
        turnNone();
        Due.end();
    }

    /** One farmer's field of roots of this sweet, brought whole; each STEP's price is 100 and the step. */
    private static BeetHouse brought(int roots, int sweet) {
        BeetHouse x = new BeetHouse();
        x.field(4, roots, sweet, 1, false);
        x.gang(0, 100, 0);
        x.lorry(100);
        for (int step = 0; step < 10; step++) {
            x.price(step, 100 + step);
        }
        x.send(0, 0);
        x.hours(2);
        return x;
    }

    private static void stepsOfSweet() {
        Due.says("PAID: STEP: SUGAR by ROOTS, by 25, both cut, 9 at most");
        int[][] cases = {{50, 2}, {74, 2}, {75, 3}, {99, 3}, {100, 4}, {124, 4}, {125, 5}, {149, 5}, {150, 6}, {174, 6}, {175, 7}, {199, 7},
            {200, 8}, {224, 8}, {225, 9}, {249, 9}, {250, 9}};
        for (int[] c : cases) {
            Due.is("coins(4) of sweet " + c[0], brought(1, c[0]).coins(4), 100 + c[1]);
            Due.is("coins(4) of sweet " + c[0] + ", 100 roots", brought(100, c[0]).coins(4), 100 * (100 + c[1]));
        }
    }

    /** Only a heap that has wasted comes below STEP 2. */
    private static void stepZero() {
        Due.says("PRICE of STEP 0 and 1");
        int[][] cases = {{6, 1}, {7, 0}};
        for (int[] c : cases) {
            BeetHouse x = new BeetHouse();
            x.field(4, 100, 50, 1, false);
            x.gang(0, 100, 0);
            x.table(5, 100);
            x.lorry(100);
            x.hours(24 * c[0]);
            x.price(0, 1000);
            x.price(1, 1);
            x.send(0, 0);
            x.hours(2);
            Due.is("coins(4) of sugar " + x.load(0, 2), x.coins(4), c[1] == 0 ? 100000 : 100);
        }
    }

    /** 4 roots with 199 of sugar: 49, not 50; 4 with 200: 50. */
    private static void stepOfTheLoad() {
        Due.says("SUGAR by ROOTS, both cut");
        for (int number = 4; number <= 5; number++) {
            BeetHouse x = new BeetHouse();
            x.field(4, 4, 50, 1, false);
            x.gang(0, 4, 0);
            x.table(5, number);
            x.lorry(4);
            x.price(1, 1);
            x.price(2, 10);
            x.hours(24);
            x.send(0, 0);
            x.hours(2);
            Due.is("load(0, 2)", x.load(0, 2), number == 4 ? 200 : 199);
            Due.is("coins(4)", x.coins(4), number == 4 ? 40 : 4);
        }
    }

    private static void rootsTimesPrice() {
        Due.says("ROOTS times the PRICE (0 .. 1000; 0 at first)");
        int[] prices = {0, 1, 1000};
        for (int price : prices) {
            BeetHouse x = new BeetHouse();
            x.field(4, 100, 100, 1, false);
            x.gang(0, 100, 0);
            x.lorry(100);
            x.price(4, price);
            x.send(0, 0);
            x.hours(2);
            Due.is("coins(4)", x.coins(4), 100 * price);
        }
    }

    private static void paidWhenItComes() {
        Due.says("their load comes to THE YARD, and is PAID");
        BeetHouse x = new BeetHouse();
        x.field(4, 10, 100, 1, false);
        x.gang(0, 10, 0);
        x.lorry(10);
        x.works(0, 9);
        x.price(4, 1);
        x.send(0, 0);
        x.hours(5);
        Due.is("coins(4) of one that waits", x.coins(4), 0);
        x.price(4, 7);
        x.works(0, 10);
        x.hours(1);
        Due.is("coins(4) at the price that is then", x.coins(4), 70);
        x.price(4, 9);
        x.works(1, 1);
        x.hours(20);
        Due.is("coins(4) once", x.coins(4), 70);
        x.send(0, 0);
        x.hours(2);
        Due.is("coins(4) none for no roots", x.coins(4), 70);
    }

    private static void paidToTheFarmer() {
        Due.says("COINS of the FARMER");
        BeetHouse x = new BeetHouse();
        for (int f = 0; f < 6; f++) {
            x.field(f, 10, 100, 1, false);
            x.lorry(f + 1);
            x.send(f, f);
        }
        x.price(4, 10);
        for (int f = 0; f < 6; f++) {
            x.gang(0, 10, f);
            x.hours(1);
            x.send(f, f);
        }
        x.hours(3);
        for (int f = 0; f < 6; f++) {
            Due.is("coins(" + f + ")", x.coins(f), 10 * x.fieldOf(f, 8));
        }
        Due.holds("the last farmer has coins", x.coins(5) > 0);
    }

    /** Farmer 1's ten roots and farmer 2's twenty have come. */
    private static BeetHouse thirtyCame() {
        BeetHouse x = new BeetHouse();
        x.field(1, 50, 100, 1, false);
        x.field(2, 50, 100, 1, false);
        x.gang(0, 50, 0);
        x.gang(1, 50, 1);
        x.lorry(10);
        x.lorry(20);
        x.send(0, 0);
        x.send(1, 1);
        x.hours(2);
        return x;
    }

    private static void owedShare() {
        Due.says("OWED: SHARE times all ROOTS that came, less 1000 times those of its FIELDS");
        BeetHouse x = thirtyCame();
        int[] shares = {0, 1, 333, 334, 999, 1000};
        for (int s : shares) {
            for (int f = 0; f < 6; f++) {
                x.share(f, s);
                int own = f == 1 ? 10 : f == 2 ? 20 : 0;
                Due.is("owed(" + f + ") with SHARE " + s, x.owed(f), BASE + 30 * s - 1000 * own);
            }
        }
    }

    private static void owedOfRootsThatCame() {
        Due.says("all ROOTS that came to THE YARD");
        BeetHouse x = new BeetHouse();
        x.field(1, 50, 100, 2, false);
        x.share(1, 400);
        x.gang(0, 50, 0);
        x.lorry(10);
        x.works(0, 9);
        x.send(0, 0);
        x.hours(3);
        Due.is("owed(1) BACK", x.owed(1), BASE);
        x.hours(3);
        Due.is("owed(1) WAITING", x.owed(1), BASE);
        x.works(0, 10);
        x.hours(1);
        Due.is("owed(1) in THE YARD", x.owed(1), BASE + 4000 - 10000);
        x.works(1, 3);
        x.hours(10);
        Due.is("owed(1) eaten", x.owed(1), BASE - 6000);
        x.frost(true);
        x.frost(false);
        x.hours(72);
        Due.is("fieldOf(0, 7)", x.fieldOf(0, 7), 40);
        Due.is("owed(1) the rest SPOILED", x.owed(1), BASE - 6000);
    }

    /** As many roots as 512 calls can bring of one farmer. */
    private static void owedEdges() {
        Due.says("OWED of a FARMER and 1000000000");
        BeetHouse x = new BeetHouse();
        for (int f = 0; f < 8; f++) {
            x.field(0, 5000, 250, 1, false);
        }
        for (int l = 0; l < 8; l++) {
            x.lorry(100);
        }
        x.works(0, 3000);
        x.works(1, 300);
        x.price(9, 1000);
        x.share(5, 1000);
        for (int f = 0; f < 4; f++) {
            for (int g = 0; g < 4; g++) {
                x.gang(g, 100, f);
            }
            x.hours(13);
        }
        int sent = 0;
        for (int round = 0; round < 24; round++) {
            for (int l = 0; l < 8; l++) {
                sent += x.send(l, round / 6) > 0 ? 100 : 0;
            }
            x.hours(3);
        }
        Due.is("sent", sent, 19200);
        Due.is("owed(5) all of it", x.owed(5), BASE + 1000 * sent);
        Due.is("owed(0) less all of it", x.owed(0), BASE - 1000 * sent);
        Due.is("coins(0)", x.coins(0), 1000 * sent);
        x.share(0, 1000);
        Due.is("owed(0) all of all", x.owed(0), BASE);
    }

    private static void nextMoreThan() {
        Due.says("NEXT: a HEAP with more ROOTS than LORRIES that are OUT there can take");
        int[][] cases = {{9, -9}, {10, -9}, {11, 3}, {12, 3}};
        for (int[] c : cases) {
            BeetHouse x = new BeetHouse();
            x.field(3, c[0], 100, 5, false);
            x.gang(0, c[0], 0);
            x.hours(1);
            Due.is("next() with none OUT", x.next(), 3);
            x.lorry(4);
            x.lorry(6);
            x.send(0, 0);
            Due.is("next() with 4 of " + c[0], x.next(), 3);
            x.send(1, 0);
            Due.is("next() with 10 of " + c[0], x.next(), c[1]);
        }
        BeetHouse one = new BeetHouse();
        one.field(3, 1, 100, 5, false);
        one.gang(0, 1, 0);
        Due.is("next() of no root", one.next(), -9);
        one.hours(1);
        Due.is("next() of one root", one.next(), 3);
    }

    /** Those that come BACK, or WAIT, or are OUT to another field, take none there. */
    private static void nextOutOnly() {
        Due.says("LORRIES that are OUT there");
        BeetHouse x = new BeetHouse();
        x.field(3, 20, 100, 1, false);
        x.field(3, 20, 100, 9, false);
        x.gang(0, 1, 0);
        x.lorry(100);
        x.works(0, 0);
        x.hours(1);
        x.send(0, 1);
        Due.is("next() OUT to another", x.next(), 3);
        BeetHouse y = new BeetHouse();
        y.field(3, 20, 100, 1, true);
        y.gang(0, 1, 0);
        y.lorry(100);
        y.works(0, 0);
        y.send(0, 0);
        Due.is("next() OUT", y.next(), -9);
        y.hours(1);
        Due.is("next() it has taken all", y.next(), -9);
        y.hours(1);
        Due.is("next() BACK", y.next(), 3);
        y.hours(5);
        Due.is("lorryOf(0, 0)", y.lorryOf(0, 0), 3);
        Due.is("next() WAITING", y.next(), 3);
    }

    private static void nextGreatest() {
        Due.says("the one with the greatest OWED");
        BeetHouse x = thirtyCame();
        x.share(1, 333);
        x.share(2, 667);
        Due.is("owed(1)", x.owed(1), BASE - 10);
        Due.is("owed(2)", x.owed(2), BASE + 10);
        Due.is("next()", x.next(), 2);
        x.share(1, 334);
        Due.is("owed(1) with 334", x.owed(1), BASE + 20);
        Due.is("next()", x.next(), 1);
        x.share(1, 0);
        x.share(2, 333);
        Due.is("next() of two below nothing", x.owed(1) - x.owed(2), 10);
        Due.is("next() of two below nothing", x.next(), 1);
        x.share(2, 334);
        Due.is("next() of two below nothing", x.next(), 2);
    }

    private static void nextLeastNumber() {
        Due.says("of several the least number");
        for (int first = 0; first < 6; first++) {
            BeetHouse x = new BeetHouse();
            for (int i = 0; i < 4; i++) {
                x.field((first + 2 * i) % 6, 10, 100, 1, false);
                x.gang(i, 10, i);
            }
            x.hours(1);
            Due.is("next() from farmer " + first + " on", x.next(), first % 2);
            x.share(5, 1000);
            x.share(4, 999);
            Due.is("next() no roots came, a share is nothing", x.next(), first % 2);
        }
    }

    private static void nextWithoutShare() {
        Due.says("of FARMERS who have a HEAP");
        BeetHouse x = thirtyCame();
        x.share(0, 1000);
        x.share(3, 1000);
        x.field(3, 10, 100, 1, false);
        Due.is("owed(0)", x.owed(0), BASE + 30000);
        Due.is("next() a field without a heap is none", x.next(), 1);
        x.gang(2, 1, 2);
        x.hours(1);
        Due.is("next() with a heap of one root", x.next(), 3);
        x.lorry(1);
        x.send(2, 2);
        Due.is("next() that is taken", x.next(), 1);
    }

    private static void turnLeastLorry() {
        Due.says("TURN: the HOME LORRY of the least number");
        BeetHouse x = new BeetHouse();
        Busy.thawed(x);
        Due.is("turn() lorries 0 to 2 are not HOME", x.turn(), 0);
        Due.lorry("sent", x, 3, 1, 0, 10, 0, 0, 0, 1);
        Due.is("turn()", x.turn(), -3);
        x.lorry(9);
        x.lorry(9);
        Due.is("turn()", x.turn(), 0);
        Due.is("lorryOf(4, 0)", x.lorryOf(4, 0), 1);
        Due.is("lorryOf(5, 0)", x.lorryOf(5, 0), 0);
    }

    private static void turnMostSugar() {
        Due.says("such a HEAP that has the most SUGAR, of several the least number");
        int[][] cases = {{100, 100, 100, 0}, {100, 101, 100, 1}, {100, 100, 101, 2}, {100, 101, 101, 1}, {101, 100, 101, 0}, {101, 100, 100, 0}};
        for (int[] c : cases) {
            BeetHouse x = new BeetHouse();
            for (int f = 0; f < 3; f++) {
                x.field(2, 10, c[f], f + 1, false);
                x.gang(f, 10, f);
            }
            x.lorry(1);
            x.hours(1);
            Due.is("turn() of " + c[0] + ", " + c[1] + ", " + c[2], x.turn(), c[3]);
            Due.lorry("sent", x, 0, 1, c[3], 2 + c[3]);
        }
        BeetHouse y = new BeetHouse();
        y.field(2, 100, 50, 1, false);
        y.field(2, 21, 240, 1, false);
        y.gang(0, 100, 0);
        y.gang(1, 100, 1);
        y.lorry(1);
        y.hours(1);
        Due.is("turn() 5000 and 5040: the most SUGAR, not ROOTS", y.turn(), 1);
    }

    private static void turnSuchAHeap() {
        Due.says("the FIELD of NEXT with such a HEAP");
        BeetHouse x = new BeetHouse();
        x.field(2, 10, 200, 9, false);
        x.field(2, 10, 100, 9, false);
        x.gang(0, 10, 0);
        x.gang(1, 10, 1);
        x.lorry(10);
        x.lorry(9);
        x.lorry(1);
        x.lorry(1);
        x.hours(1);
        Due.is("turn() the most SUGAR", x.turn(), 0);
        Due.is("turn() all of that is taken", x.turn(), 1);
        Due.is("turn() one root is left to take", x.turn(), 1);
        Due.is("turn() none", x.turn(), -9);
        Due.is("lorryOf(3, 0) stays HOME", x.lorryOf(3, 0), 0);
        Due.refusals("turn", x);
    }

    private static void turnOfNextOnly() {
        Due.says("of NEXT");
        BeetHouse x = thirtyCame();
        x.field(2, 50, 250, 1, false);
        x.gang(2, 50, 2);
        x.hours(1);
        Due.is("owed(1) is greater", x.owed(1) - x.owed(2), 10000);
        Due.is("turn() though another's HEAP has more SUGAR", x.turn(), 0);
        x.share(2, 1000);
        Due.is("turn() of the other", x.turn(), 2);
    }

    private static void turnNone() {
        Due.says("turn: -9 there is no NEXT");
        BeetHouse x = new BeetHouse();
        x.lorry(5);
        Due.is("turn() without a FIELD", x.turn(), -9);
        x.field(0, 5, 50, 3, false);
        Due.is("turn() without a HEAP", x.turn(), -9);
        x.gang(0, 5, 0);
        x.hours(1);
        Due.is("turn()", x.turn(), 0);
        x.lorry(5);
        Due.is("turn() all is taken", x.turn(), -9);
        x.hours(3);
        Due.is("turn() an empty HEAP", x.turn(), -9);
        Due.is("lorryOf(1, 0)", x.lorryOf(1, 0), 0);
        Due.refusals("turn", x);
    }
}
