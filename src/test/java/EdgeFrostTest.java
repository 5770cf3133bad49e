/** FROST, thaw and cover: the sentences that name an edge, each with a test of its own. */
public final class EdgeFrostTest {
    public static void main(String[] args) {
        newObject();
        heapsWithRoots();
        notCovered();
        notThawed();
        coveredStaysThawed();
        thawedFromNowOn();
        thawedAnew();
        liftingAsItIs();
        liftingToCovered();
        liftingToThawed();
        emptyNoMoreThawed();
        emptiedWhileFrozen();
        emptyStaysCovered();
        uncoveredInFrost();
        worksGoesOnInFrost();
        coverAnswers();
        coverOfThawed();
        spoiledInFrost();
        Due.end();
    }

    /** So many fields of ten roots, each lifted by a gang of its own in one hour. */
    private static BeetHouse heaps(int n) {
        BeetHouse x = new BeetHouse();
        for (int f = 0; f < n; f++) {
            x.field(f, 10, 100, 1, false);
            x.gang(f, 10, f);
        }
        x.lorry(10);
        x.hours(1);
        return x;
    }

    private static void frosts(BeetHouse x, int frozen, int thawed) {
        Due.is("frost(true)", x.frost(true), frozen);
        Due.is("count(17)", x.count(17), 1);
        Due.is("frost(false)", x.frost(false), thawed);
        Due.is("count(17)", x.count(17), 0);
    }

    private static void newObject() {
        Due.says("Promise 1: Nothing; no FROST");
        BeetHouse x = new BeetHouse();
        Due.is("count(17)", x.count(17), 0);
        Due.is("frost(false)", x.frost(false), -3);
        frosts(x, 0, 0);
        frosts(x, 0, 0);
        Due.refusals("frost", x, 0, 0, 1);
    }

    private static void heapsWithRoots() {
        Due.says("FROST begins: all HEAPS with ROOTS");
        BeetHouse x = heaps(2);
        x.field(4, 10, 100, 1, false);
        Due.is("frost(true)", x.frost(true), 2);
        Due.is("fieldOf(0, 4)", x.fieldOf(0, 4), 1);
        Due.is("fieldOf(1, 4)", x.fieldOf(1, 4), 1);
        Due.is("fieldOf(2, 4) of no ROOTS", x.fieldOf(2, 4), 0);
        Due.is("frost(false)", x.frost(false), 2);
        Due.is("fieldOf(2, 5)", x.fieldOf(2, 5), -9);
        BeetHouse one = new BeetHouse();
        one.field(0, 1, 50, 1, false);
        one.gang(0, 1, 0);
        one.hours(1);
        frosts(one, 1, 1);
    }

    private static void notCovered() {
        Due.says("that are not COVERED are FROZEN");
        BeetHouse x = heaps(3);
        x.cover(1, true);
        Due.is("frost(true)", x.frost(true), 2);
        Due.is("fieldOf(1, 4)", x.fieldOf(1, 4), 0);
        Due.is("fieldOf(1, 3)", x.fieldOf(1, 3), 1);
        Due.is("frost(false)", x.frost(false), 2);
        Due.is("fieldOf(1, 5)", x.fieldOf(1, 5), -9);
        x.cover(0, true);
        x.cover(2, true);
        frosts(x, 0, 0);
    }

    private static void notThawed() {
        Due.says("(and not THAWED)");
        BeetHouse x = heaps(1);
        frosts(x, 1, 1);
        x.hours(71);
        Due.is("frost(true) at the 71st hour", x.frost(true), 1);
        Due.field("frozen", x, 0, 0, 10, 1000, 0, 1, -9);
        x.hours(200);
        Due.field("it does not spoil", x, 0, 0, 10, 1000, 0, 1, -9, 0, 0);
    }

    private static void coveredStaysThawed() {
        Due.says("a COVERED one that is THAWED is not FROZEN, and stays THAWED");
        BeetHouse x = heaps(1);
        x.hours(4);
        frosts(x, 1, 1);
        x.cover(0, true);
        x.hours(3);
        frosts(x, 0, 0);
        Due.field("since the first", x, 0, 0, 10, 1000, 1, 0, 5);
        x.hours(68);
        Due.is("fieldOf(0, 1) at hour 76", x.fieldOf(0, 1), 10);
        x.hours(1);
        Due.is("fieldOf(0, 1) at hour 77", x.fieldOf(0, 1), 0);
    }

    private static void thawedFromNowOn() {
        Due.says("It ends: FROZEN ones are THAWED from now on");
        int[] hours = {1, 2, 24, 71, 72, 73, 1000};
        for (int n : hours) {
            BeetHouse x = heaps(1);
            Due.is("frost(true)", x.frost(true), 1);
            x.hours(n);
            Due.field("frozen for " + n, x, 0, 0, 10, 1000, 0, 1, -9);
            Due.is("frost(false)", x.frost(false), 1);
            Due.field("thawed behind " + n, x, 0, 0, 10, 1000, 0, 0, 1 + n);
            x.hours(71);
            Due.is("fieldOf(0, 5) 71 hours later", x.fieldOf(0, 5), 1 + n);
            x.hours(1);
            Due.is("fieldOf(0, 7) 72 hours later", x.fieldOf(0, 7), 10);
        }
        BeetHouse now = heaps(1);
        frosts(now, 1, 1);
        Due.is("fieldOf(0, 5) frost that ends in its hour", now.fieldOf(0, 5), 1);
    }

    private static void thawedAnew() {
        Due.says("THAWED (since an HOUR): the last thaw");
        BeetHouse x = heaps(1);
        for (int i = 0; i < 4; i++) {
            frosts(x, 1, 1);
            Due.is("fieldOf(0, 5)", x.fieldOf(0, 5), 1 + 71 * i);
            x.hours(71);
        }
        Due.is("fieldOf(0, 1)", x.fieldOf(0, 1), 10);
        x.hours(1);
        Due.is("fieldOf(0, 1)", x.fieldOf(0, 1), 0);
    }

    private static void liftingAsItIs() {
        Due.says("LIFTING goes to a HEAP as it is: neither FROZEN nor THAWED nor COVERED");
        BeetHouse x = new BeetHouse();
        x.field(0, 10, 100, 1, false);
        frosts(x, 0, 0);
        x.gang(0, 1, 0);
        x.hours(1);
        Due.field("behind a frost without roots", x, 0, 9, 1, 100, 0, 0, -9);
    }

    private static void liftingToCovered() {
        Due.says("LIFTING goes to a HEAP as it is: COVERED");
        BeetHouse x = new BeetHouse();
        x.field(0, 10, 100, 1, false);
        x.gang(0, 1, 0);
        x.hours(1);
        x.cover(0, true);
        x.hours(1);
        Due.field("still COVERED", x, 0, 8, 2, 200, 1, 0, -9);
        frosts(x, 0, 0);
    }

    private static void liftingToThawed() {
        Due.says("LIFTING goes to a HEAP as it is: THAWED");
        BeetHouse x = new BeetHouse();
        x.field(0, 100, 100, 1, false);
        x.gang(0, 1, 0);
        x.hours(1);
        frosts(x, 1, 1);
        x.hours(71);
        Due.field("still THAWED", x, 0, 28, 72, 7200, 0, 0, 1);
        x.hours(1);
        Due.field("all SPOILED, the last one too", x, 0, 27, 0, 0, 0, 0, -9, 0, 73);
        x.hours(1);
        Due.field("a new heap", x, 0, 26, 1, 100, 0, 0, -9, 0, 73);
    }

    private static void emptyNoMoreThawed() {
        Due.says("an empty one is no more THAWED");
        BeetHouse x = new BeetHouse();
        x.field(0, 30, 100, 1, false);
        x.gang(0, 10, 0);
        x.hours(1);
        x.gang(0, 0, -1);
        x.lorry(9);
        x.lorry(1);
        frosts(x, 1, 1);
        x.send(0, 0);
        x.hours(1);
        Due.field("one root is left", x, 0, 20, 1, 100, 0, 0, 1);
        x.send(1, 0);
        x.hours(1);
        Due.field("none is left", x, 0, 20, 0, 0, 0, 0, -9);
        x.gang(0, 10, 0);
        x.hours(1);
        Due.field("lifted anew", x, 0, 10, 10, 1000, 0, 0, -9);
        x.hours(100);
        Due.is("fieldOf(0, 7)", x.fieldOf(0, 7), 0);
    }

    /** The document leaves it open whether it is counted; what it says of an empty one holds: it is not THAWED. */
    private static void emptiedWhileFrozen() {
        Due.says("an empty one is no more THAWED, when the FROST ends");
        BeetHouse x = heaps(2);
        Due.is("frost(true)", x.frost(true), 2);
        x.send(0, 0);
        x.hours(1);
        Due.lorry("roots of a FROZEN heap can be taken", x, 0, 2, 0, 3, 10, 1000);
        Due.is("frost(false)", x.frost(false), 1);
        Due.field("the empty one", x, 0, 0, 0, 0, 0, 0, -9);
        Due.field("the other", x, 1, 0, 10, 1000, 0, 0, 2);
    }

    private static void emptyStaysCovered() {
        Due.says("SPOILED ones are no more COVERED; of others that are empty it says nothing");
        BeetHouse x = new BeetHouse();
        x.field(0, 30, 100, 1, false);
        x.gang(0, 10, 0);
        x.hours(1);
        x.gang(0, 0, -1);
        x.lorry(10);
        x.cover(0, true);
        x.send(0, 0);
        x.hours(1);
        Due.field("empty", x, 0, 20, 0, 0, 1, 0, -9);
        Due.is("frost(true)", x.frost(true), 0);
        Due.is("frost(false)", x.frost(false), 0);
        x.gang(0, 10, 0);
        x.hours(1);
        Due.is("cover(0, true) 0 if it was so", x.cover(0, true), 0);
        frosts(x, 0, 0);
    }

    private static void uncoveredInFrost() {
        Due.says("FROST begins: it is then that they are FROZEN");
        BeetHouse x = heaps(1);
        x.table(5, 100);
        x.cover(0, true);
        Due.is("frost(true)", x.frost(true), 0);
        Due.is("cover(0, false)", x.cover(0, false), 1);
        x.hours(23);
        Due.field("it wastes", x, 0, 0, 10, 900, 0, 0, -9, 100);
        Due.is("frost(false)", x.frost(false), 0);
        Due.is("fieldOf(0, 5)", x.fieldOf(0, 5), -9);
    }

    private static void worksGoesOnInFrost() {
        Due.says("if there is no FROST: GANGS alone");
        BeetHouse x = heaps(1);
        x.price(4, 3);
        x.works(1, 2);
        x.send(0, 0);
        x.frost(true);
        Due.is("hours(1)", x.hours(1), 0);
        Due.is("hours(1)", x.hours(1), 2);
        Due.is("coins(0)", x.coins(0), 30);
        Due.is("hours(9)", x.hours(9), 8);
        Due.is("count(6)", x.count(6), 1 + 5);
    }

    private static void coverAnswers() {
        Due.says("cover: 1; 0 if it was so");
        BeetHouse x = heaps(2);
        Due.is("cover(0, false) at first", x.cover(0, false), 0);
        Due.is("cover(0, true)", x.cover(0, true), 1);
        Due.is("cover(0, true)", x.cover(0, true), 0);
        Due.is("fieldOf(0, 3)", x.fieldOf(0, 3), 1);
        Due.is("fieldOf(1, 3)", x.fieldOf(1, 3), 0);
        Due.is("cover(0, false)", x.cover(0, false), 1);
        Due.is("cover(0, false)", x.cover(0, false), 0);
        Due.is("fieldOf(0, 3)", x.fieldOf(0, 3), 0);
        Due.refusals("cover", x);
        BeetHouse one = new BeetHouse();
        one.field(0, 2, 50, 1, false);
        one.gang(0, 1, 0);
        Due.is("cover(0, true) of no root", one.cover(0, true), -3);
        one.hours(1);
        Due.is("cover(0, true) of one root", one.cover(0, true), 1);
    }

    private static void coverOfThawed() {
        Due.says("cover: -3 it is FROZEN; a THAWED one can be COVERED");
        BeetHouse x = heaps(1);
        x.frost(true);
        Due.is("cover(0, true) FROZEN", x.cover(0, true), -3);
        x.frost(false);
        Due.is("cover(0, true) THAWED", x.cover(0, true), 1);
        Due.is("cover(0, false) THAWED", x.cover(0, false), 1);
        Due.field("still THAWED", x, 0, 0, 10, 1000, 0, 0, 1);
    }

    private static void spoiledInFrost() {
        Due.says("HEAPS that are THAWED for 72 HOURS, also in a FROST");
        BeetHouse x = heaps(2);
        frosts(x, 2, 2);
        x.cover(0, true);
        Due.is("frost(true)", x.frost(true), 1);
        x.hours(72);
        Due.field("COVERED and THAWED", x, 0, 0, 0, 0, 0, 0, -9, 0, 10);
        Due.field("FROZEN", x, 1, 0, 10, 1000, 0, 1, -9, 0, 0);
        Due.is("frost(false)", x.frost(false), 1);
    }
}
