/** BEST: the sentences that name an edge, each with a test of its own. */
public final class EdgeBestTest {
    public static void main(String[] args) {
        noneAndOne();
        cutUp();
        stonyTwice();
        upToTheHourInWhichItBegins();
        noneBehindTheLastHour();
        allHundredDays();
        warmthOfEachDay();
        asItIsNow();
        spoilingIsNotLookedAt();
        thawedOneFirst();
        heapsAlone();
        emptyOnesAreNotIn();
        leastTogether();
        firstOrderOfEquals();
        firstOrderAtEachPlace();
        greatestHeaps();
        eightAndNine();
        changesNothing();
        Due.end();
    }

    private static void best(String when, BeetHouse x, int waste, int... fields) {
        Due.is("best() " + when, x.best(), waste);
        for (int i = 0; i < fields.length; i++) {
            Due.is("order(" + i + ") " + when, x.order(i), fields[i]);
        }
        Due.is("order(" + fields.length + ") " + when, x.order(fields.length), -9);
    }

    /** Two heaps alike of SWEET 100, up to 200 roots for each hour; nothing has wasted up to the hour; then the table has 10. */
    private static BeetHouse two(int hour, int roots, boolean stony, int rate) {
        BeetHouse x = new BeetHouse();
        for (int f = 0; f < 2; f++) {
            x.field(f, roots, 100, 1, stony);
            x.gang(f, 100, f);
            x.gang(f + 2, 100, f);
        }
        x.hours(hour);
        x.works(1, rate);
        x.table(5, 10);
        return x;
    }

    /** What so much SUGAR wastes in so many days, at a number of the table. */
    private static int wasted(int sugar, int days, int number) {
        int left = sugar;
        for (int i = 0; i < days; i++) {
            left -= left * number / 1000;
        }
        return sugar - left;
    }

    private static void noneAndOne() {
        Due.says("BEST: of HEAPS with ROOTS, none or one");
        BeetHouse x = new BeetHouse();
        x.works(1, 1);
        best("without a FIELD", x, 0);
        x.field(0, 100, 100, 1, false);
        best("without a HEAP", x, 0);
        x.gang(0, 1, 0);
        x.table(5, 100);
        x.hours(23);
        best("of one, it begins now", x, 0, 0);
        x.hours(1);
        best("of one at the end of a DAY", x, 0, 0);
    }

    /** From hour 22 on a heap of two hours is before the end of the DAY, which the other begins at. */
    private static void cutUp() {
        Due.says("each for ROOTS by RATE HOURS, cut up");
        int[][] cases = {{1, 1, 0}, {2, 1, 1}, {1, 300, 0}, {10, 10, 0}, {11, 10, 1}, {20, 10, 1}, {9, 10, 0}, {200, 200, 0}, {200, 199, 1},
            {200, 300, 0}};
        for (int[] c : cases) {
            BeetHouse x = two(22, c[0], false, c[1]);
            best("of " + c[0] + " roots, RATE " + c[1], x, wasted(100 * c[0], c[2], 10), 0, 1);
        }
    }

    private static void stonyTwice() {
        Due.says("(a STONY one's twice)");
        int[][] cases = {{1, 2, 0}, {1, 1, 1}, {5, 10, 0}, {6, 10, 1}, {5, 9, 1}, {6, 11, 1}, {6, 12, 0}, {150, 300, 0}, {151, 300, 1}};
        for (int[] c : cases) {
            BeetHouse x = two(22, c[0], true, c[1]);
            best("of " + c[0] + " stony roots, RATE " + c[1], x, wasted(100 * c[0], c[2], 10), 0, 1);
        }
    }

    private static void upToTheHourInWhichItBegins() {
        Due.says("at each DAY's end behind now up to the HOUR in which it begins, that one too");
        int[][] cases = {{2, 21, 0}, {2, 22, 1}, {2, 45, 1}, {2, 46, 2}, {23, 1, 1}, {23, 24, 1}, {23, 25, 2}, {24, 1, 0}, {24, 23, 0}, {24, 24, 1},
            {24, 47, 1}, {24, 48, 2}, {25, 22, 0}, {25, 23, 1}, {48, 23, 0}, {48, 24, 1}, {48, 200, 8}};
        for (int[] c : cases) {
            BeetHouse x = two(c[0], c[1], false, 1);
            best("at hour " + c[0] + ", the other begins at " + (c[0] + c[1]), x, wasted(100 * c[1], c[2], 10), 0, 1);
        }
    }

    private static void noneBehindTheLastHour() {
        Due.says("but none behind HOUR 2400");
        int[][] cases = {{2375, 1, 1}, {2375, 24, 1}, {2375, 25, 2}, {2375, 26, 2}, {2375, 49, 2}, {2376, 23, 0}, {2376, 24, 1}, {2376, 25, 1},
            {2376, 48, 1}, {2376, 200, 1}, {2399, 1, 1}, {2399, 25, 1}, {2399, 200, 1}, {2400, 1, 0}, {2400, 24, 0}, {2400, 200, 0}};
        for (int[] c : cases) {
            BeetHouse x = two(c[0], c[1], false, 1);
            best("at hour " + c[0] + ", the other begins at " + (c[0] + c[1]), x, wasted(100 * c[1], c[2], 10), 0, 1);
        }
    }

    /** Heaps that lie on DAY 0, and one that begins at 2399, at 2400 or long behind it. */
    private static void allHundredDays() {
        Due.says("at each DAY's end behind now: all 100 of them");
        int[][] cases = {{2376, 99}, {2377, 100}, {2378, 100}, {4600, 100}};
        for (int[] c : cases) {
            BeetHouse x = two(23, c[0], false, 1);
            best("from hour 23, the other begins at " + (23 + c[0]), x, wasted(100 * c[0], c[1], 10), 0, 1);
            x.works(1, 300);
            int ends = (23 + (c[0] + 299) / 300) / 24;
            best("from hour 23 with RATE 300", x, wasted(100 * c[0], ends, 10), 0, 1);
        }
    }

    private static void warmthOfEachDay() {
        Due.says("wastes at each DAY's end");
        BeetHouse x = two(23, 50, false, 1);
        x.table(5, 0);
        x.table(0, 100);
        x.table(9, 50);
        best("WARMTH 5 of all", x, 0, 0, 1);
        x.warmth(0, 0);
        best("DAY 0", x, 500, 0, 1);
        x.warmth(2, 9);
        best("DAYS 0 and 2", x, 500 + 225, 0, 1);
        x.warmth(1, 0);
        best("DAYS 0, 1 and 2", x, 500 + 450 + 202, 0, 1);
        x.warmth(3, 0);
        best("DAY 3 is behind it", x, 500 + 450 + 202, 0, 1);
        x.hours(1);
        best("at hour 24: two alike, DAYS 1 and 2", x, 450 + 202, 0, 1);
        BeetHouse last = two(2399, 10, false, 1);
        last.warmth(99, 0);
        best("DAY 99", last, 0, 0, 1);
        last.table(0, 100);
        best("DAY 99", last, 100, 0, 1);
    }

    private static void asItIsNow() {
        Due.says("as it is now (COVERED, FROZEN, THAWED stay so");
        int[][] numbers = {{10, 10, 5, 0, 30}, {7, 7, 3, 0, 21}, {1, 1, 0, 0, 3}, {100, 100, 50, 0, 300}};
        for (int[] n : numbers) {
            BeetHouse x = two(10, 100, false, 1);
            x.table(5, n[0]);
            best("as they are", x, wasted(10000, 4, n[1]), 0, 1);
            x.cover(0, true);
            x.cover(1, true);
            best("COVERED", x, wasted(10000, 4, n[2]), 0, 1);
            x.cover(0, false);
            x.cover(1, false);
            x.frost(true);
            best("FROZEN", x, wasted(10000, 4, n[3]), 0, 1);
            x.frost(false);
            best("THAWED", x, wasted(10000, 4, n[4]), 0, 1);
            x.cover(0, true);
            x.cover(1, true);
            best("COVERED and THAWED", x, wasted(10000, 4, n[4]), 0, 1);
        }
    }

    private static void spoilingIsNotLookedAt() {
        Due.says("SPOILING is not looked at)");
        BeetHouse x = two(10, 200, false, 1);
        x.frost(true);
        x.frost(false);
        best("eight days THAWED", x, wasted(20000, 8, 30), 0, 1);
        x.hours(71);
        x.cover(0, true);
        best("an hour before it is SPOILED", x, wasted(x.fieldOf(0, 2), 8, 30), 0, 1);
        x.hours(1);
        best("behind it", x, 0);
    }

    /** The heap that would waste more is eaten first, though its number is greater. */
    private static void thawedOneFirst() {
        Due.says("The least WASTE together");
        BeetHouse x = two(10, 100, false, 1);
        x.cover(1, true);
        best("a COVERED one lies", x, wasted(10000, 4, 5), 0, 1);
        x.cover(0, true);
        x.cover(1, false);
        best("a COVERED one lies", x, wasted(10000, 4, 5), 1, 0);
        x.frost(true);
        best("a FROZEN one lies", x, 0, 0, 1);
        x.frost(false);
        best("a THAWED one is eaten first", x, wasted(10000, 4, 5), 1, 0);
    }

    /** Roots in the ground, on lorries and in THE YARD are not looked at, nor is what THE WORKS eats now. */
    private static void heapsAlone() {
        Due.says("all orders in which THE WORKS could eat them, from now on");
        BeetHouse x = new BeetHouse();
        x.field(0, 5000, 100, 1, false);
        x.field(1, 5000, 100, 1, false);
        x.gang(0, 5, 0);
        x.gang(1, 5, 1);
        x.hours(2);
        x.lorry(1);
        x.lorry(1);
        x.send(0, 0);
        x.hours(2);
        x.send(1, 1);
        x.hours(1);
        x.table(5, 100);
        x.works(1, 1);
        Due.field("24 lie here", x, 0, 4975, 24);
        Due.field("and here", x, 1, 4975, 24);
        best("24 roots each at hour 5", x, 240, 0, 1);
        x.works(1, 2);
        best("12 hours each", x, 0, 0, 1);
    }

    private static void emptyOnesAreNotIn() {
        Due.says("of HEAPS with ROOTS");
        BeetHouse x = new BeetHouse();
        for (int f = 0; f < 5; f++) {
            x.field(0, 10, 100, 1, false);
        }
        x.works(1, 1);
        x.gang(0, 10, 1);
        x.gang(1, 10, 3);
        x.gang(2, 10, 4);
        x.lorry(10);
        x.hours(1);
        best("fields 1, 3, 4", x, 0, 1, 3, 4);
        x.send(0, 3);
        x.hours(1);
        best("fields 1, 4", x, 0, 1, 4);
    }

    /** The sweetest lies long: it is not by SUGAR, nor by ROOTS, that they are put in order. */
    private static void leastTogether() {
        Due.says("The least WASTE together: of all orders");
        BeetHouse x = new BeetHouse();
        int[][] fields = {{30, 200, 0}, {10, 250, 1}, {12, 100, 0}};
        for (int f = 0; f < 3; f++) {
            x.field(0, fields[f][0], fields[f][1], 1, fields[f][2] == 1);
            x.gang(f, 30, f);
        }
        x.hours(1);
        x.works(1, 1);
        x.table(5, 100);
        best("0 lasts 30, 1 lasts 20, 2 lasts 12", x, 120 + 108, 1, 0, 2);
    }

    private static void firstOrderOfEquals() {
        Due.says("and the first order (by the least FIELD at the first place) that has it");
        BeetHouse x = new BeetHouse();
        for (int f = 0; f < 8; f++) {
            x.field(0, 30, 250 - 10 * f, 1, f % 2 == 0);
            x.gang(f % 4, 30, f);
            if (f % 4 == 3) {
                x.hours(1);
            }
        }
        x.works(1, 1);
        best("nothing wastes", x, 0, 0, 1, 2, 3, 4, 5, 6, 7);
        x.table(5, 100);
        x.works(1, 300);
        best("all begin today", x, 0, 0, 1, 2, 3, 4, 5, 6, 7);
    }

    /** Heap 1 must be first; of 0, 2, 3 behind it the orders are alike. */
    private static void firstOrderAtEachPlace() {
        Due.says("that has it, also at the places behind the first");
        BeetHouse x = new BeetHouse();
        int[] sweet = {100, 101, 100, 100};
        for (int f = 0; f < 4; f++) {
            x.field(0, 10, sweet[f], 1, false);
            x.gang(f, 10, f);
        }
        x.hours(20);
        x.works(1, 2);
        x.table(5, 100);
        best("one end of a DAY for three of them", x, 300, 1, 0, 2, 3);
        x.works(1, 4);
        best("two begin before it", x, 200, 0, 1, 2, 3);
    }

    private static void greatestHeaps() {
        Due.says("ROOTS up to 5000, SWEET up to 250, RATE from 1 on");
        BeetHouse x = new BeetHouse();
        for (int f = 0; f < 8; f++) {
            x.field(0, 5000, 250, 1, true);
        }
        for (int f = 0; f < 8; f++) {
            for (int g = 0; g < 4; g++) {
                x.gang(g, 100, f);
            }
            x.hours(13);
        }
        x.works(1, 1);
        x.table(5, 100);
        int days = 100 - 4;
        best("each lasts 10000 hours", x, 7 * wasted(1250000, days, 100), 0, 1, 2, 3, 4, 5, 6, 7);
        x.works(1, 300);
        int sum = 0;
        for (int i = 0; i < 8; i++) {
            sum += wasted(1250000, (104 + 34 * i) / 24 - 4, 100);
        }
        best("each lasts 34 hours", x, sum, 0, 1, 2, 3, 4, 5, 6, 7);
    }

    private static void eightAndNine() {
        Due.says("-3 more than 8 HEAPS");
        BeetHouse x = new BeetHouse();
        for (int f = 0; f < 9; f++) {
            x.field(0, 1, 50, 1, false);
        }
        x.works(1, 1);
        for (int f = 0; f < 9; f++) {
            x.gang(0, 1, f);
            x.hours(1);
            Due.is("best() of " + (f + 1), x.best(), f < 8 ? 0 : -3);
            Due.is("order(" + f + ") of " + (f + 1), x.order(f), f < 8 ? f : -3);
            Due.is("order(" + (f + 1) + ") of " + (f + 1), x.order(f + 1), f < 8 ? -9 : -3);
        }
        Due.refusals("best", x, 0, 0, 3);
    }

    private static void changesNothing() {
        Due.says("THE WORKS could eat them: nothing is eaten or wasted");
        BeetHouse x = new BeetHouse();
        BeetHouse y = new BeetHouse();
        Busy.thawed(x);
        Busy.thawed(y);
        int waste = x.best();
        Due.is("best() again", x.best(), waste);
        Due.is("order(0)", x.order(0), 1);
        Due.is("best() behind order", x.best(), waste);
        for (int f = 0; f < 4; f++) {
            for (int what = 0; what <= 10; what++) {
                Due.is("fieldOf(" + f + ", " + what + ")", x.fieldOf(f, what), y.fieldOf(f, what));
            }
        }
        Due.is("hours(50)", x.hours(50), y.hours(50));
        Due.is("count(8)", x.count(8), y.count(8));
        Due.is("best() is of the new state", x.best(), y.best());
    }
}
