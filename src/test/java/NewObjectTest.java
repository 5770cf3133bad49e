/** Promise 1: a new object has nothing, and no FROST. */
public final class NewObjectTest {
    public static void main(String[] args) {
        counts();
        numbers();
        emptyHands();
        twoObjects();
        Due.end();
    }

    private static void counts() {
        BeetHouse x = new BeetHouse();
        for (int what = -2; what <= 20; what++) {
            boolean known = (what >= 0 && what <= 9) || (what >= 11 && what <= 17);
            Due.is("count(" + what + ")", x.count(what), known ? 0 : -9);
        }
        Due.is("next()", x.next(), -9);
        Due.is("load(0, 0)", x.load(0, 0), -9);
        for (int f = 0; f < 6; f++) {
            Due.is("coins(" + f + ")", x.coins(f), 0);
            Due.is("owed(" + f + ")", x.owed(f), 1000000000);
        }
        Due.is("fieldOf(0, 0)", x.fieldOf(0, 0), -1);
        Due.is("lorryOf(0, 0)", x.lorryOf(0, 0), -1);
    }

    private static void numbers() {
        BeetHouse x = new BeetHouse();
        for (int f = 0; f < 6; f++) {
            Due.is("share(" + f + ", 1)", x.share(f, 1), 0);
        }
        for (int i = 0; i < 10; i++) {
            Due.is("table(" + i + ", 1)", x.table(i, 1), 0);
            Due.is("price(" + i + ", 1)", x.price(i, 1), 0);
        }
        for (int day = 0; day < 100; day++) {
            Due.is("warmth(" + day + ", 1)", x.warmth(day, 1), 5);
        }
        Due.is("works(0, 1)", x.works(0, 1), 500);
        Due.is("works(1, 1)", x.works(1, 1), 0);
    }

    /** GANGS have no FIELD at first, and no RATE. */
    private static void emptyHands() {
        BeetHouse x = new BeetHouse();
        x.field(0, 10, 50, 1, false);
        Due.is("hours(5)", x.hours(5), 0);
        Due.is("fieldOf(0, 0)", x.fieldOf(0, 0), 10);
        Due.is("fieldOf(0, 1)", x.fieldOf(0, 1), 0);
        Due.is("count(6) with RATE 0", x.count(6), 0);
        Due.is("count(7) with RATE 0", x.count(7), 0);
    }

    private static void twoObjects() {
        BeetHouse x = new BeetHouse();
        BeetHouse y = new BeetHouse();
        x.share(0, 7);
        x.price(0, 7);
        x.hours(3);
        x.frost(true);
        Due.is("share(0, 0) of the other", y.share(0, 0), 0);
        Due.is("price(0, 0) of the other", y.price(0, 0), 0);
        Due.is("count(0) of the other", y.count(0), 0);
        Due.is("count(17) of the other", y.count(17), 0);
    }
}
