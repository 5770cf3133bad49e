/** The six steps of AN HOUR: the sentences that name an edge, each with a test of its own. */
public final class EdgeHourTest {
    public static void main(String[] args) {
        gangsRestInFrost();
        whatIsLeft();
        gangsAtOneField();
        comesWhenItIsThere();
        lorriesTakeByNumbers();
        liftedInTheHour();
        allThereAre();
        sugarTakenIsCut();
        backOneMoreIfStony();
        findsRoom();
        noneAlwaysFindRoom();
        asTheLast();
        keepsTheOthersWaiting();
        keepsNoneBeforeIt();
        drownedHours();
        unitsForOneRoot();
        firstLoadOnly();
        stonyIsTwo();
        partsStay();
        eatsManyLoads();
        lack();
        rateNothing();
        eatenBehindUnloading();
        multipleOfTwentyFour();
        dayThatIsOver();
        wasteIsCut();
        coveredHalfIsCut();
        frozenNone();
        thawedThreeTimes();
        onlyHeapsWaste();
        thawedSeventyTwo();
        spoiledBehindTheRest();
        spoiledIsGone();
        hoursOneByOne();
        Due.end();
    }

    /** One field that is not stony, its way 1, and gang 0 at it. */
    private static BeetHouse one(int roots, int sweet, int rate) {
        BeetHouse x = new BeetHouse();
        x.field(0, roots, sweet, 1, false);
        x.gang(0, rate, 0);
        return x;
    }

    private static void gangsRestInFrost() {
        Due.says("1 GANGS, by numbers, if there is no FROST");
        BeetHouse x = one(10, 100, 3);
        x.frost(true);
        x.hours(5);
        Due.field("in frost", x, 0, 10, 0, 0, 0, 0, -9);
        x.frost(false);
        x.hours(1);
        Due.field("behind it", x, 0, 7, 3, 300, 0, 0, -9);
        x.frost(true);
        x.hours(1);
        Due.field("in frost again", x, 0, 7, 3, 300, 0, 1, -9);
    }

    private static void whatIsLeft() {
        Due.says("LIFTING RATE roots at their FIELD, or what is left");
        int[] rates = {0, 1, 4, 5, 6, 100};
        for (int rate : rates) {
            BeetHouse x = one(5, 60, rate);
            x.hours(1);
            int n = Math.min(rate, 5);
            Due.field("rate " + rate, x, 0, 5 - n, n, 60 * n);
            x.hours(1);
            n = Math.min(2 * rate, 5);
            Due.field("rate " + rate + ", two hours", x, 0, 5 - n, n, 60 * n);
        }
        BeetHouse last = one(1, 250, 100);
        last.hours(3);
        Due.field("a field of one root", last, 0, 0, 1, 250);
    }

    private static void gangsAtOneField() {
        Due.says("or what is left, to the next GANG");
        BeetHouse x = one(5, 60, 3);
        x.gang(1, 3, 0);
        x.gang(2, 3, 0);
        x.hours(1);
        Due.field("3, then 2, then none", x, 0, 0, 5, 300);
        BeetHouse y = one(5000, 250, 100);
        for (int g = 1; g < 4; g++) {
            y.gang(g, 100, 0);
        }
        y.hours(12);
        Due.field("four of 100", y, 0, 200, 4800, 1200000);
        y.hours(1);
        Due.field("half of the four find roots", y, 0, 0, 5000, 1250000);
    }

    private static void comesWhenItIsThere() {
        Due.says("2 LORRIES, by numbers, that have come where they go");
        int[] ways = {1, 2, 12};
        for (int way : ways) {
            for (int stony = 0; stony <= 1; stony++) {
                BeetHouse x = new BeetHouse();
                x.field(0, 50, 100, way, stony == 1);
                x.gang(0, 50, 0);
                x.lorry(9);
                x.hours(3);
                Due.is("send", x.send(0, 0), 3 + way);
                if (way > 1) {
                    x.hours(way - 1);
                }
                Due.lorry("an hour too early", x, 0, 1, 0, 3 + way, 0, 0, 0, 0);
                x.hours(1);
                int back = 3 + 2 * way + stony;
                Due.lorry("there", x, 0, 2, 0, back, 9, 900, 0, 0);
                if (way + stony > 1) {
                    x.hours(way + stony - 1);
                }
                Due.lorry("an hour too early for home", x, 0, 2, 0, back, 9, 900, 0, 0);
                x.hours(1);
                Due.lorry("home", x, 0, 0, -9, -9, 0, 0, 0, 1);
                Due.yard("its load", x, 0, 9, 900);
            }
        }
    }

    private static void lorriesTakeByNumbers() {
        Due.says("by numbers: the lower one takes first");
        BeetHouse x = one(6, 100, 6);
        x.lorry(4);
        x.lorry(4);
        x.lorry(4);
        x.send(2, 0);
        x.send(1, 0);
        x.send(0, 0);
        x.hours(1);
        Due.lorry("the first", x, 0, 2, 0, 2, 4, 400);
        Due.lorry("the second", x, 1, 2, 0, 2, 2, 200);
        Due.lorry("the third", x, 2, 2, 0, 2, 0, 0);
        Due.field("emptied", x, 0, 0, 0, 0);
    }

    private static void liftedInTheHour() {
        Due.says("1 before 2: what is lifted in the HOUR can be taken");
        BeetHouse x = one(5, 100, 5);
        x.lorry(5);
        x.send(0, 0);
        x.hours(1);
        Due.lorry("laden", x, 0, 2, 0, 2, 5, 500);
    }

    private static void allThereAre() {
        Due.says("it takes LOAD roots of the HEAP, or all there are");
        int[] loads = {1, 9, 10, 11, 100};
        for (int load : loads) {
            BeetHouse x = one(10, 100, 10);
            x.lorry(load);
            x.send(0, 0);
            x.hours(1);
            int n = Math.min(load, 10);
            Due.lorry("load " + load, x, 0, 2, 0, 2, n, 100 * n);
            Due.field("load " + load, x, 0, 0, 10 - n, 1000 - 100 * n);
        }
    }

    private static void sugarTakenIsCut() {
        Due.says("SUGAR of the HEAP times the roots taken by the roots there (cut)");
        BeetHouse x = one(3, 50, 3);
        x.table(5, 7);
        x.hours(24);
        Due.field("150 less 1", x, 0, 0, 3, 149);
        x.lorry(2);
        x.lorry(1);
        x.send(0, 0);
        x.hours(1);
        Due.is("lorryOf(0, 4): 298 by 3", x.lorryOf(0, 4), 99);
        Due.field("the rest stays", x, 0, 0, 1, 50);
        x.send(1, 0);
        x.hours(1);
        Due.is("lorryOf(1, 4): all that is left", x.lorryOf(1, 4), 50);
        Due.field("nothing stays", x, 0, 0, 0, 0);
        largeHeap();
    }

    /** The greatest SUGAR and the greatest LOAD. */
    private static void largeHeap() {
        BeetHouse x = one(5000, 250, 100);
        for (int g = 1; g < 4; g++) {
            x.gang(g, 100, 0);
        }
        x.hours(23);
        x.table(5, 1);
        x.hours(1);
        Due.field("the greatest heap", x, 0, 0, 5000, 1248750);
        x.lorry(100);
        x.lorry(99);
        x.send(0, 0);
        x.send(1, 0);
        x.hours(1);
        Due.is("lorryOf(0, 4)", x.lorryOf(0, 4), 24975);
        Due.is("lorryOf(1, 4): 1223775 times 99 by 4900, cut", x.lorryOf(1, 4), 24725);
    }

    private static void backOneMoreIfStony() {
        Due.says("BACK after WAY HOURS, one more if it is STONY (also without any roots)");
        int[] ways = {1, 12};
        for (int way : ways) {
            for (int stony = 0; stony <= 1; stony++) {
                BeetHouse x = new BeetHouse();
                x.field(0, 50, 100, way, stony == 1);
                x.lorry(9);
                x.send(0, 0);
                x.hours(way);
                Due.lorry("without roots", x, 0, 2, 0, 2 * way + stony, 0, 0, 0, 0);
                x.hours(way + stony);
                Due.lorry("home without roots", x, 0, 0, -9, -9, 0, 0, 0, 0);
                Due.yard("nothing came", x);
            }
        }
    }

    private static void findsRoom() {
        Due.says("3 LORRIES that are WAITING, if their ROOTS find room in THE YARD");
        int[][] cases = {{0, 3}, {6, 3}, {7, 0}, {8, 0}};
        for (int[] c : cases) {
            BeetHouse x = one(7, 100, 7);
            x.lorry(7);
            x.works(0, c[0]);
            x.send(0, 0);
            x.hours(2);
            Due.is("lorryOf(0, 0) with ROOM " + c[0], x.lorryOf(0, 0), c[1]);
            Due.is("lorryOf(0, 5) with ROOM " + c[0], x.lorryOf(0, 5), c[1] == 3 ? 1 : 0);
        }
    }

    /** Also where more lies than the ROOM that there now is. */
    private static void noneAlwaysFindRoom() {
        Due.says("(none always do)");
        BeetHouse x = one(7, 100, 7);
        x.lorry(7);
        x.works(0, 7);
        x.send(0, 0);
        x.hours(2);
        x.send(0, 0);
        Due.is("works(0, 0)", x.works(0, 0), 7);
        x.hours(2);
        Due.lorry("home", x, 0, 0, -9, -9, 0, 0, 0, 1);
        Due.yard("what lies there stays", x, 0, 7, 700);
        Due.is("count(3)", x.count(3), 7);
    }

    /** By the hour, and within it by numbers; empty ones leave no load. */
    private static void asTheLast() {
        Due.says("their load comes to THE YARD, as the last (none without roots)");
        BeetHouse x = new BeetHouse();
        x.field(0, 50, 100, 2, false);
        x.field(1, 50, 200, 1, false);
        x.field(2, 50, 150, 1, false);
        x.gang(0, 50, 0);
        x.gang(1, 50, 1);
        for (int l = 0; l < 4; l++) {
            x.lorry(5 + l);
        }
        x.send(0, 0);
        x.send(3, 1);
        x.send(2, 2);
        x.send(1, 1);
        x.hours(2);
        Due.yard("hour 2", x, 1, 6, 1200, 1, 8, 1600);
        x.hours(2);
        Due.yard("hour 4", x, 1, 6, 1200, 1, 8, 1600, 0, 5, 500);
        Due.is("lorryOf(2, 6)", x.lorryOf(2, 6), 0);
        Due.is("fieldOf(1, 8)", x.fieldOf(1, 8), 14);
    }

    private static void keepsTheOthersWaiting() {
        Due.says("One for which there is no room keeps the others waiting");
        BeetHouse x = one(50, 100, 50);
        x.field(1, 5, 100, 1, false);
        x.lorry(11);
        x.lorry(1);
        x.lorry(3);
        x.works(0, 10);
        x.send(0, 0);
        x.send(1, 0);
        x.send(2, 1);
        x.hours(2);
        Due.lorry("no room", x, 0, 3, 0, -9, 11, 1100, 1, 0);
        Due.lorry("one root would find room", x, 1, 3, 0, -9, 1, 100, 1, 0);
        Due.lorry("no roots would find room", x, 2, 3, 1, -9, 0, 0, 1, 0);
        Due.yard("nothing came", x);
        x.works(0, 11);
        x.hours(1);
        Due.is("lorryOf(0, 0)", x.lorryOf(0, 0), 0);
        Due.lorry("now there is no room for this one", x, 1, 3, 0, -9, 1, 100, 2, 0);
        Due.lorry("and it keeps the third waiting", x, 2, 3, 1, -9, 0, 0, 2, 0);
        x.works(0, 12);
        x.hours(1);
        Due.lorry("home", x, 1, 0, -9, -9, 0, 0, 2, 1);
        Due.lorry("home", x, 2, 0, -9, -9, 0, 0, 2, 0);
    }

    /** A lower number that comes later is before one that waits. */
    private static void keepsNoneBeforeIt() {
        Due.says("3 LORRIES, by numbers");
        BeetHouse x = one(50, 100, 50);
        x.lorry(4);
        x.lorry(11);
        x.works(0, 10);
        x.send(1, 0);
        x.hours(4);
        x.send(0, 0);
        x.hours(2);
        Due.lorry("the lower number is not kept", x, 0, 0, -9, -9, 0, 0, 0, 1);
        Due.lorry("the greater waits on", x, 1, 3, 0, -9, 11, 1100, 5, 0);
    }

    private static void drownedHours() {
        Due.says("An HOUR in which a LORRY waits on behind that is a DROWNED one for it");
        BeetHouse x = one(50, 100, 50);
        x.lorry(10);
        x.send(0, 0);
        x.hours(2);
        Due.is("lorryOf(0, 5) waits and unloads in one hour", x.lorryOf(0, 5), 0);
        x.works(0, 19);
        x.send(0, 0);
        x.hours(1);
        Due.is("lorryOf(0, 5) on its way", x.lorryOf(0, 5), 0);
        x.hours(7);
        Due.is("lorryOf(0, 5)", x.lorryOf(0, 5), 7);
        x.works(0, 20);
        x.hours(1);
        Due.is("lorryOf(0, 5) not in the hour it unloads", x.lorryOf(0, 5), 7);
        x.hours(9);
        Due.is("lorryOf(0, 5) nor at home", x.lorryOf(0, 5), 7);
    }

    /** Loads of so many roots of a stony field (0) and of one that is not (1), in this order, lie in THE YARD. */
    private static BeetHouse loads(int stony, int other) {
        BeetHouse x = new BeetHouse();
        x.field(0, 100, 100, 1, true);
        x.field(1, 100, 200, 2, false);
        x.gang(0, 100, 0);
        x.gang(1, 100, 1);
        if (stony > 0) {
            x.lorry(stony);
            x.send(x.count(2) - 1, 0);
        }
        if (other > 0) {
            x.lorry(other);
            x.send(x.count(2) - 1, 1);
        }
        x.hours(4);
        return x;
    }

    private static void unitsForOneRoot() {
        Due.says("4 THE WORKS: as long as it has UNITS left for one root of the first load, it eats one");
        BeetHouse x = loads(1, 0);
        x.works(1, 1);
        Due.is("hours(10) a UNIT is not enough for a STONY root", x.hours(10), 0);
        Due.is("count(7) nor is it LACK", x.count(7), 0);
        Due.is("count(6)", x.count(6), 0);
        x.works(1, 2);
        Due.is("hours(1)", x.hours(1), 1);
        Due.is("count(6)", x.count(6), 0);
        BeetHouse y = loads(0, 1);
        y.works(1, 1);
        Due.is("hours(1) a UNIT is enough for another", y.hours(1), 1);
        Due.is("count(6)", y.count(6), 0);
    }

    private static void firstLoadOnly() {
        Due.says("of the first load");
        BeetHouse x = loads(2, 5);
        x.works(1, 3);
        Due.is("hours(1) the third unit is not for the second load", x.hours(1), 1);
        Due.yard("hour 5", x, 0, 1, 200, 1, 5, 1000);
        Due.is("count(7)", x.count(7), 0);
        Due.is("hours(1) the second stony one, then one of the next", x.hours(1), 2);
        Due.yard("hour 6", x, 1, 4, 1000);
        Due.is("hours(1)", x.hours(1), 3);
        Due.is("hours(1)", x.hours(1), 1);
        Due.is("count(7)", x.count(7), 2);
        Due.is("count(6)", x.count(6), 1);
    }

    private static void stonyIsTwo() {
        Due.says("a root is a UNIT, a STONY one two");
        BeetHouse x = loads(100, 0);
        x.works(1, 300);
        Due.is("hours(1) 100 stony roots", x.hours(1), 100);
        Due.is("count(7)", x.count(7), 100);
        BeetHouse y = loads(100, 0);
        y.works(1, 199);
        Due.is("hours(1)", y.hours(1), 99);
        Due.is("count(7)", y.count(7), 0);
        Due.is("hours(1)", y.hours(1), 1);
        Due.is("count(7)", y.count(7), 197);
        BeetHouse z = loads(100, 0);
        z.works(1, 200);
        Due.is("hours(1)", z.hours(1), 100);
        Due.is("count(6)", z.count(6), 0);
    }

    private static void partsStay() {
        Due.says("(SUGAR of a load goes with its last root; parts of loads stay)");
        BeetHouse x = loads(0, 5);
        x.works(1, 4);
        Due.is("hours(1)", x.hours(1), 4);
        Due.yard("one root is left", x, 1, 1, 1000);
        Due.is("count(5)", x.count(5), 0);
        Due.is("count(3)", x.count(3), 1);
        Due.is("hours(1)", x.hours(1), 1);
        Due.yard("none is left", x);
        Due.is("count(5)", x.count(5), 1000);
        Due.is("count(4)", x.count(4), 5);
    }

    private static void eatsManyLoads() {
        Due.says("loads of one root, eight in an HOUR");
        BeetHouse x = one(50, 100, 50);
        for (int l = 0; l < 8; l++) {
            x.lorry(1);
            x.send(l, 0);
        }
        x.hours(1);
        x.works(1, 8);
        Due.is("hours(1)", x.hours(1), 8);
        Due.is("count(5)", x.count(5), 800);
        Due.is("count(6)", x.count(6), 0);
        Due.yard("none", x);
    }

    private static void lack() {
        Due.says("UNITS that are left, if THE YARD has no ROOTS then, are LACK, and it STANDS");
        int[][] cases = {{4, 0, 0}, {5, 0, 0}, {6, 1, 1}, {300, 295, 1}};
        for (int[] c : cases) {
            BeetHouse x = loads(0, 5);
            x.works(1, c[0]);
            x.hours(1);
            Due.is("count(7) with RATE " + c[0], x.count(7), c[1]);
            Due.is("count(6) with RATE " + c[0], x.count(6), c[2]);
        }
        BeetHouse odd = loads(1, 0);
        odd.works(1, 3);
        Due.is("hours(1) one stony root of three units", odd.hours(1), 1);
        Due.is("count(7)", odd.count(7), 1);
        Due.is("count(6)", odd.count(6), 1);
    }

    private static void rateNothing() {
        Due.says("(with RATE 0: never)");
        BeetHouse x = new BeetHouse();
        x.hours(100);
        Due.is("count(6)", x.count(6), 0);
        Due.is("count(7)", x.count(7), 0);
        x.works(1, 1);
        x.hours(1);
        Due.is("count(6) with RATE 1", x.count(6), 1);
        Due.is("count(7) with RATE 1", x.count(7), 1);
        x.works(1, 300);
        x.hours(2);
        Due.is("count(6) with RATE 300", x.count(6), 3);
        Due.is("count(7) with RATE 300", x.count(7), 601);
        BeetHouse y = loads(3, 3);
        Due.is("hours(9) with RATE 0", y.hours(9), 0);
        Due.is("count(3)", y.count(3), 6);
    }

    private static void eatenBehindUnloading() {
        Due.says("3 before 4: what comes is eaten in its HOUR; room that it makes is for the next");
        BeetHouse x = one(50, 100, 50);
        x.lorry(5);
        x.lorry(5);
        x.works(0, 5);
        x.works(1, 5);
        x.send(0, 0);
        x.send(1, 0);
        Due.is("hours(1)", x.hours(1), 0);
        Due.is("hours(1)", x.hours(1), 5);
        Due.is("lorryOf(1, 0)", x.lorryOf(1, 0), 3);
        Due.is("hours(1)", x.hours(1), 5);
        Due.is("lorryOf(1, 0)", x.lorryOf(1, 0), 0);
        Due.is("lorryOf(1, 5)", x.lorryOf(1, 5), 1);
        Due.is("count(6) the first hour only", x.count(6), 1);
    }

    private static void multipleOfTwentyFour() {
        Due.says("5 If HOUR is a multiple of 24, WASTE");
        BeetHouse x = one(10, 100, 10);
        x.table(5, 10);
        int[][] due = {{23, 0}, {24, 10}, {25, 10}, {47, 10}, {48, 19}, {49, 19}, {71, 19}, {72, 28}};
        for (int[] d : due) {
            x.hours(d[0] - x.count(0));
            Due.is("fieldOf(0, 6) at hour " + d[0], x.fieldOf(0, 6), d[1]);
            Due.is("fieldOf(0, 2) at hour " + d[0], x.fieldOf(0, 2), 1000 - d[1]);
            Due.is("count(8) at hour " + d[0], x.count(8), d[1]);
        }
    }

    private static void dayThatIsOver() {
        Due.says("at WARMTH of the DAY that is over");
        BeetHouse x = one(10, 100, 10);
        x.table(0, 100);
        x.table(9, 10);
        x.warmth(0, 0);
        x.warmth(2, 9);
        x.warmth(98, 9);
        x.warmth(99, 0);
        x.hours(24);
        Due.is("fieldOf(0, 6): DAY 0", x.fieldOf(0, 6), 100);
        x.hours(24);
        Due.is("fieldOf(0, 6): DAY 1", x.fieldOf(0, 6), 100);
        x.hours(23);
        x.warmth(3, 0);
        x.hours(1);
        Due.is("fieldOf(0, 6): DAY 2", x.fieldOf(0, 6), 109);
        x.warmth(3, 5);
        x.hours(2376 - 72 - 1);
        Due.is("fieldOf(0, 6) before DAY 98 ends", x.fieldOf(0, 6), 109);
        x.hours(1);
        Due.is("fieldOf(0, 6): DAY 98", x.fieldOf(0, 6), 117);
        x.hours(23);
        Due.is("fieldOf(0, 6) before DAY 99 ends", x.fieldOf(0, 6), 117);
        x.hours(1);
        Due.is("fieldOf(0, 6): DAY 99", x.fieldOf(0, 6), 205);
    }

    private static void wasteIsCut() {
        Due.says("by its SUGAR times the table, by 1000, cut");
        int[][] cases = {{10, 99, 1, 0}, {10, 100, 1, 1}, {10, 199, 1, 1}, {10, 200, 1, 2}, {1, 50, 19, 0}, {1, 50, 20, 1}, {1, 50, 100, 5},
            {1, 59, 100, 5}, {10, 250, 0, 0}};
        for (int[] c : cases) {
            BeetHouse x = one(c[0], c[1], 100);
            x.table(5, c[2]);
            x.hours(24);
            Due.is("fieldOf(0, 6) of " + c[0] * c[1] + " at " + c[2], x.fieldOf(0, 6), c[3]);
            Due.is("fieldOf(0, 2) of " + c[0] * c[1] + " at " + c[2], x.fieldOf(0, 2), c[0] * c[1] - c[3]);
            Due.is("fieldOf(0, 1) roots do not waste", x.fieldOf(0, 1), c[0]);
        }
        BeetHouse great = one(5000, 250, 100);
        for (int g = 1; g < 4; g++) {
            great.gang(g, 100, 0);
        }
        great.table(5, 100);
        great.hours(24);
        Due.is("fieldOf(0, 6) of the greatest heap", great.fieldOf(0, 6), 125000);
    }

    private static void coveredHalfIsCut() {
        Due.says("(a COVERED one, not THAWED: half of the table's number, cut");
        int[][] cases = {{0, 0}, {1, 0}, {2, 1}, {3, 1}, {99, 49}, {100, 50}};
        for (int[] c : cases) {
            BeetHouse x = one(10, 100, 10);
            x.table(5, c[0]);
            x.hours(1);
            x.cover(0, true);
            x.hours(23);
            Due.is("fieldOf(0, 6) COVERED at " + c[0], x.fieldOf(0, 6), c[1]);
        }
        BeetHouse late = one(10, 100, 10);
        late.table(5, 100);
        late.hours(23);
        late.cover(0, true);
        late.hours(1);
        Due.is("fieldOf(0, 6) COVERED in the last hour", late.fieldOf(0, 6), 50);
        late.hours(23);
        late.cover(0, false);
        late.hours(1);
        Due.is("fieldOf(0, 6) uncovered in the last hour", late.fieldOf(0, 6), 50 + 95);
    }

    private static void frozenNone() {
        Due.says("a FROZEN one: none");
        BeetHouse x = one(10, 100, 10);
        x.table(5, 100);
        x.hours(23);
        x.frost(true);
        x.hours(1);
        Due.is("fieldOf(0, 6)", x.fieldOf(0, 6), 0);
        x.hours(240);
        Due.is("fieldOf(0, 6) ten days later", x.fieldOf(0, 6), 0);
        Due.is("fieldOf(0, 2)", x.fieldOf(0, 2), 1000);
    }

    /** 3 times 100 is the most that a table allows: 1000 at most is never met from below. */
    private static void thawedThreeTimes() {
        Due.says("a THAWED one: three times the table's number, 1000 at most)");
        int[][] cases = {{0, 0}, {1, 3}, {33, 99}, {34, 102}, {99, 297}, {100, 300}};
        for (int[] c : cases) {
            for (int on = 0; on <= 1; on++) {
                BeetHouse x = one(10, 100, 10);
                x.table(5, c[0]);
                x.hours(1);
                x.frost(true);
                x.frost(false);
                x.cover(0, on == 1);
                x.hours(23);
                Due.is("fieldOf(0, 6) THAWED at " + c[0] + ", cover " + on, x.fieldOf(0, 6), c[1]);
            }
        }
    }

    /** What a lorry took in the hour, or has, and what lies in THE YARD does not waste; what was lifted in it does. */
    private static void onlyHeapsWaste() {
        Due.says("WASTE: of each HEAP");
        BeetHouse x = one(40, 100, 10);
        x.table(5, 100);
        x.lorry(10);
        x.lorry(10);
        x.send(0, 0);
        x.hours(4);
        x.send(0, 0);
        x.gang(0, 0, -1);
        x.hours(19);
        Due.is("fieldOf(0, 1)", x.fieldOf(0, 1), 20);
        x.send(1, 0);
        x.hours(1);
        Due.is("lorryOf(1, 4) taken in that hour", x.lorryOf(1, 4), 1000);
        Due.is("fieldOf(0, 6)", x.fieldOf(0, 6), 100);
        Due.yard("two loads", x, 0, 10, 1000, 0, 10, 1000);
        BeetHouse y = one(40, 100, 10);
        y.table(5, 100);
        y.gang(0, 0, -1);
        y.hours(23);
        y.gang(0, 10, 0);
        y.hours(1);
        Due.field("lifted in that hour", y, 0, 30, 10, 900, 0, 0, -9, 100);
    }

    private static void thawedSeventyTwo() {
        Due.says("6 HEAPS that are THAWED for 72 HOURS are SPOILED");
        int[] since = {1, 23, 24, 25, 2328};
        for (int t : since) {
            BeetHouse x = one(10, 100, 10);
            x.hours(t);
            x.frost(true);
            x.frost(false);
            x.hours(71);
            Due.field("71 hours", x, 0, 0, 10, 1000, 0, 0, t, 0, 0);
            Due.is("count(9)", x.count(9), 0);
            x.hours(1);
            Due.field("72 hours", x, 0, 0, 0, 0, 0, 0, -9, 0, 10);
            Due.is("count(9)", x.count(9), 10);
        }
    }

    /** In the last hour it is still lifted to, taken from, and wastes. */
    private static void spoiledBehindTheRest() {
        Due.says("6 is behind 1, 2 and 5");
        BeetHouse x = one(100, 100, 10);
        x.table(5, 100);
        x.hours(24);
        x.gang(0, 0, -1);
        Due.is("fieldOf(0, 2)", x.fieldOf(0, 2), 9000);
        x.frost(true);
        x.frost(false);
        x.hours(71);
        Due.is("fieldOf(0, 6) at hour 95", x.fieldOf(0, 6), 1000 + 2700 + 1890);
        x.lorry(40);
        x.send(0, 0);
        x.hours(1);
        Due.lorry("taken in the 72nd hour", x, 0, 2, 0, 97, 40, 1764);
        Due.is("fieldOf(0, 6) wasted in the 72nd hour", x.fieldOf(0, 6), 1000 + 2700 + 1890 + 793);
        Due.is("fieldOf(0, 7)", x.fieldOf(0, 7), 60);
        BeetHouse y = one(100, 100, 1);
        y.hours(1);
        y.frost(true);
        y.frost(false);
        y.hours(72);
        Due.is("fieldOf(0, 7) lifted in the 72nd hour", y.fieldOf(0, 7), 73);
        BeetHouse z = one(10, 100, 10);
        z.lorry(10);
        z.hours(1);
        z.frost(true);
        z.frost(false);
        z.cover(0, true);
        z.hours(71);
        z.send(0, 0);
        z.hours(1);
        Due.field("emptied in the 72nd hour: it is not SPOILED", z, 0, 0, 0, 0, 1, 0, -9, 0, 0);
    }

    private static void spoiledIsGone() {
        Due.says("their ROOTS and SUGAR are gone, they are no more THAWED, COVERED");
        BeetHouse x = one(100, 100, 10);
        x.table(5, 10);
        x.hours(1);
        x.gang(0, 0, -1);
        x.frost(true);
        x.frost(false);
        x.cover(0, true);
        x.hours(72);
        Due.field("spoiled", x, 0, 90, 0, 0, 0, 0, -9, 30 + 29 + 28, 10, 0, 0, 0);
        Due.is("next()", x.next(), -9);
        x.gang(0, 5, 0);
        x.hours(1);
        Due.field("a new heap as at first", x, 0, 85, 5, 500, 0, 0, -9, 87, 10, 0, 0, 0);
        x.hours(22);
        Due.is("fieldOf(0, 6) at hour 96: 10 by 1000 of 9000 more", x.fieldOf(0, 6), 87 + 90);
        x.hours(100);
        Due.is("fieldOf(0, 7) it spoils once", x.fieldOf(0, 7), 10);
    }

    private static void hoursOneByOne() {
        Due.says("hours: n HOURS pass: how many ROOTS THE WORKS ate");
        BeetHouse x = new BeetHouse();
        BeetHouse y = new BeetHouse();
        Busy.thawed(x);
        Busy.thawed(y);
        int sum = 0;
        for (int i = 0; i < 100; i++) {
            sum += x.hours(1);
        }
        Due.is("hours(100)", y.hours(100), sum);
        for (int what = 0; what <= 17; what++) {
            Due.is("count(" + what + ")", y.count(what), x.count(what));
        }
        for (int f = 0; f < 4; f++) {
            for (int what = 0; what <= 10; what++) {
                Due.is("fieldOf(" + f + ", " + what + ")", y.fieldOf(f, what), x.fieldOf(f, what));
            }
        }
    }
}
