/** Sentences of the document that had no test of their own when it was gone through once more from its first line. */
public final class SentencesTest {
    public static void main(String[] args) {
        heapOfNextInAnyState();
        frozenIsTakenFrom();
        emptiedStaysFrozen();
        weatherThatIsOver();
        cameToSpoiled();
        soFarStays();
        rootsAreNeverLost();
        heldByItself();
        fiveHundredAndTwelve();
        readme();
        Due.end();
    }

    /** One heap of ten roots of farmer 3, and a lorry that is HOME. */
    private static BeetHouse heap() {
        BeetHouse x = new BeetHouse();
        x.field(3, 10, 100, 2, false);
        x.gang(0, 10, 0);
        x.lorry(4);
        x.hours(1);
        return x;
    }

    private static void heapOfNextInAnyState() {
        Due.says("NEXT: FARMERS who have a HEAP: COVERED, FROZEN or THAWED, in FROST or not");
        BeetHouse x = heap();
        x.cover(0, true);
        Due.is("next() COVERED", x.next(), 3);
        x.frost(true);
        Due.is("next() COVERED in FROST", x.next(), 3);
        x.frost(false);
        x.cover(0, false);
        x.frost(true);
        Due.is("next() FROZEN", x.next(), 3);
        Due.is("turn() FROZEN", x.turn(), 0);
        Due.lorry("sent in FROST", x, 0, 1, 0, 3);
        x.frost(false);
        Due.is("next() THAWED", x.next(), 3);
        x.lorry(4);
        Due.is("turn() THAWED", x.turn(), 0);
        Due.lorry("sent to a THAWED one", x, 1, 1, 0, 3);
    }

    private static void frozenIsTakenFrom() {
        Due.says("it takes LOAD roots of the HEAP: what is left of a FROZEN or COVERED one is so still");
        BeetHouse x = heap();
        x.frost(true);
        x.send(0, 0);
        x.hours(2);
        Due.lorry("of a FROZEN one", x, 0, 2, 0, 5, 4, 400);
        Due.field("still FROZEN", x, 0, 0, 6, 600, 0, 1, -9);
        Due.is("frost(false)", x.frost(false), 1);
        Due.field("the rest is THAWED", x, 0, 0, 6, 600, 0, 0, 3);
        BeetHouse y = heap();
        y.cover(0, true);
        y.send(0, 0);
        y.hours(2);
        Due.field("still COVERED", y, 0, 0, 6, 600, 1, 0, -9);
    }

    /** Only the end of the FROST is told to end FROZEN. */
    private static void emptiedStaysFrozen() {
        Due.says("It ends: FROZEN ones are THAWED; an empty one is not");
        BeetHouse x = heap();
        x.lorry(100);
        x.frost(true);
        x.send(1, 0);
        x.hours(2);
        Due.field("emptied", x, 0, 0, 0, 0, 0, 1, -9);
        Due.is("next() of an empty one", x.next(), -9);
        Due.is("frost(false)", x.frost(false), 0);
        Due.field("behind the FROST", x, 0, 0, 0, 0, 0, 0, -9);
        x.hours(72);
        Due.field("nothing is SPOILED", x, 0, 0, 0, 0, 0, 0, -9, 0, 0);
    }

    private static void weatherThatIsOver() {
        Due.says("warmth, table: what has wasted is not changed behind it");
        BeetHouse x = heap();
        x.table(5, 100);
        x.hours(23);
        Due.field("at hour 24", x, 0, 0, 10, 900, 0, 0, -9, 100);
        x.warmth(0, 9);
        x.table(9, 50);
        x.table(5, 0);
        Due.field("another WARMTH of DAY 0, another table", x, 0, 0, 10, 900, 0, 0, -9, 100);
        x.hours(24);
        Due.field("DAY 1 by the table that is then", x, 0, 0, 10, 900, 0, 0, -9, 100);
        x.warmth(2, 9);
        x.hours(24);
        Due.field("DAY 2", x, 0, 0, 10, 855, 0, 0, -9, 145);
        Due.is("warmth(0, 5) is held all the same", x.warmth(0, 5), 9);
    }

    private static void cameToSpoiled() {
        Due.says("SPOILED: their ROOTS and SUGAR are gone, for a LORRY that comes there too");
        BeetHouse x = heap();
        x.works(1, 1);
        x.frost(true);
        x.frost(false);
        x.hours(71);
        x.send(0, 0);
        Due.is("best()", x.best(), 0);
        Due.is("order(0)", x.order(0), 0);
        x.hours(1);
        Due.is("order(0) SPOILED", x.order(0), -9);
        Due.is("fieldOf(0, 10)", x.fieldOf(0, 10), 1);
        x.hours(1);
        Due.lorry("it takes none", x, 0, 2, 0, 76, 0, 0, 0, 0);
        x.hours(2);
        Due.lorry("HOME", x, 0, 0, -9, -9, 0, 0, 0, 0);
        Due.yard("none came", x);
        Due.is("owed(3)", x.owed(3), 1000000000);
        Due.is("count(5)", x.count(5), 0);
    }

    private static void soFarStays() {
        Due.says("fieldOf: WASTE of it so far, ROOTS that were SPOILED, that came to THE YARD");
        BeetHouse x = new BeetHouse();
        x.field(2, 100, 100, 1, false);
        x.gang(0, 10, 0);
        x.table(5, 100);
        x.lorry(20);
        x.hours(1);
        x.gang(0, 0, -1);
        x.frost(true);
        x.frost(false);
        x.hours(72);
        Due.field("SPOILED", x, 0, 90, 0, 0, 0, 0, -9, 300 + 210 + 147, 10, 0);
        x.gang(0, 20, 0);
        x.hours(1);
        x.gang(0, 0, -1);
        x.hours(22);
        Due.field("a new heap has wasted", x, 0, 70, 20, 1800, 0, 0, -9, 657 + 200, 10, 0);
        x.send(0, 0);
        x.hours(2);
        Due.field("emptied", x, 0, 70, 0, 0, 0, 0, -9, 857, 10, 20);
        x.works(1, 300);
        x.hours(1);
        Due.field("eaten", x, 0, 70, 0, 0, 0, 0, -9, 857, 10, 20);
        Due.is("count(8)", x.count(8), 857);
        Due.is("count(9)", x.count(9), 10);
    }

    /** In the ground, in heaps, on lorries, in the yard, eaten or spoiled. */
    private static void rootsAreNeverLost() {
        Due.says("from the ground to the HEAP, to THE YARD, eaten: each root is at one place");
        BeetHouse x = new BeetHouse();
        Busy.thawed(x);
        int came = 0;
        for (int round = 0; round < 6; round++) {
            Due.is("roots at hour " + x.count(0), rootsOf(x), 300 + 200 + 120 + 40);
            came = 0;
            for (int f = 0; f < 4; f++) {
                came += x.fieldOf(f, 8);
            }
            Due.is("came at hour " + x.count(0), came, x.count(3) + x.count(4));
            x.turn();
            x.hours(17);
        }
        Due.holds("some came", came > 19);
        Due.holds("some are SPOILED", x.count(9) > 0);
    }

    private static int rootsOf(BeetHouse x) {
        int sum = x.count(3) + x.count(4) + x.count(9);
        for (int f = 0; f < 4; f++) {
            sum += x.fieldOf(f, 0) + x.fieldOf(f, 1);
        }
        for (int l = 0; l < 4; l++) {
            sum += x.lorryOf(l, 3);
        }
        return sum;
    }

    /** Two objects turn by turn answer what each answers alone. */
    private static void heldByItself() {
        Due.says("LANGUAGE 5, 13: no state but the object's; the same calls always give the same answers");
        int[] alone = new int[60];
        BeetHouse x = new BeetHouse();
        for (int i = 0; i < alone.length; i++) {
            alone[i] = step(x, i);
        }
        BeetHouse y = new BeetHouse();
        BeetHouse other = new BeetHouse();
        Busy.full(other);
        for (int i = 0; i < alone.length; i++) {
            Due.is("step " + i, step(y, i), alone[i]);
            other.hours(1);
            other.best();
            other.turn();
            other.frost(i % 2 == 0);
        }
    }

    private static int step(BeetHouse x, int i) {
        switch (i % 10) {
            case 0: return x.field(i / 10, 40 + i, 100 + i, 1 + i / 10, i % 20 == 0);
            case 1: return x.gang(i / 10 % 4, 7 + i, i / 10);
            case 2: return x.lorry(1 + i);
            case 3: return x.works(1, 1 + i / 10);
            case 4: return x.table(5, i);
            case 5: return x.hours(1 + i);
            case 6: return x.turn();
            case 7: return x.best();
            case 8: return x.order(i / 20);
            default: return x.count(8) + x.count(5);
        }
    }

    /** The last of 512 calls answers as the first ones do, and so do the dearest ones. */
    private static void fiveHundredAndTwelve() {
        Due.says("An object is used for at most 512 calls");
        BeetHouse x = new BeetHouse();
        int calls = 0;
        for (int l = 0; l < 8; l++, calls++) {
            x.lorry(1);
        }
        x.field(0, 5000, 250, 1, false);
        x.gang(0, 100, 0);
        x.works(1, 0);
        calls += 3;
        int sent = 0;
        while (calls + 9 < 512) {
            for (int l = 0; l < 8; l++, calls++) {
                sent += x.send(l, 0) == 1 + 2 * (sent / 8) ? 1 : 0;
            }
            x.hours(2);
            calls++;
        }
        Due.is("sent", sent, 8 * 55);
        while (calls < 510) {
            Due.is("count(3), call " + ++calls, x.count(3), sent);
        }
        Due.is("load(439, 2), call 511", x.load(439, 2), 250);
        Due.is("load(440, 2), call 512", x.load(440, 2), -9);
    }

    /** The run of calls that README.md shows. */
    private static void readme() {
        Due.says("README.md: Use");
        BeetHouse house = new BeetHouse();
        int field = house.field(0, 100, 200, 2, false);
        Due.is("field", field, 0);
        Due.is("gang", house.gang(0, 30, field), 1);
        Due.is("lorry", house.lorry(40), 0);
        Due.is("works", house.works(1, 10), 0);
        Due.is("price", house.price(8, 3), 0);
        Due.is("hours(1)", house.hours(1), 0);
        Due.is("turn()", house.turn(), 0);
        Due.is("hours(4)", house.hours(4), 10);
        Due.is("coins(0)", house.coins(0), 120);
    }
}
