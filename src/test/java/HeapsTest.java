import java.util.function.Consumer;

/** Promises 12, 13 and WASTE, THAWED and SPOILED heaps of promise 14. */
public final class HeapsTest {
    public static void main(String[] args) {
        wasteByWarmth();
        coverHalvesCut();
        thawedThreefold();
        coveredAndThawed();
        frozenAgain();
        spoiledAtSeventyTwo();
        emptiedHeaps();
        emptiedInFrost();
        frostStopsGangs();
        refusals();
        Due.end();
    }

    private static BeetHouse heap(int roots, int sweet) {
        BeetHouse x = new BeetHouse();
        x.field(2, roots, sweet, 1, false);
        x.gang(0, 100, 0);
        x.gang(1, 100, 0);
        x.hours(1);
        return x;
    }

    private static void wasteByWarmth() {
        BeetHouse x = heap(10, 100);
        x.table(5, 7);
        x.table(0, 100);
        x.table(9, 1);
        x.warmth(1, 0);
        x.warmth(2, 9);
        x.hours(22);
        Due.is("fieldOf(0, 2) at hour 23", x.fieldOf(0, 2), 1000);
        x.hours(1);
        Due.is("fieldOf(0, 2) at hour 24", x.fieldOf(0, 2), 993);
        Due.is("fieldOf(0, 6)", x.fieldOf(0, 6), 7);
        Due.is("fieldOf(0, 1) roots stay", x.fieldOf(0, 1), 10);
        x.hours(24);
        Due.is("fieldOf(0, 2) at hour 48", x.fieldOf(0, 2), 894);
        x.hours(24);
        Due.is("fieldOf(0, 2) at hour 72", x.fieldOf(0, 2), 894);
        Due.is("count(8)", x.count(8), 106);
        x.warmth(99, 0);
        x.table(5, 0);
        x.hours(2400 - 72);
        Due.is("fieldOf(0, 2) at hour 2400: day 99", x.fieldOf(0, 2), 805);
    }

    private static void coverHalvesCut() {
        BeetHouse x = heap(10, 100);
        x.table(5, 7);
        Due.is("cover(0, false)", x.cover(0, false), 0);
        Due.is("cover(0, true)", x.cover(0, true), 1);
        Due.is("cover(0, true)", x.cover(0, true), 0);
        Due.is("fieldOf(0, 3)", x.fieldOf(0, 3), 1);
        x.hours(23);
        Due.is("fieldOf(0, 6) half of 7 is 3", x.fieldOf(0, 6), 3);
        Due.is("cover(0, false)", x.cover(0, false), 1);
        Due.is("fieldOf(0, 3)", x.fieldOf(0, 3), 0);
        x.hours(24);
        Due.is("fieldOf(0, 6) uncovered", x.fieldOf(0, 6), 9);
    }

    private static void thawedThreefold() {
        BeetHouse x = heap(10, 100);
        x.table(5, 100);
        Due.is("frost(true)", x.frost(true), 1);
        Due.is("count(17)", x.count(17), 1);
        x.hours(23);
        Due.is("fieldOf(0, 6) frozen", x.fieldOf(0, 6), 0);
        Due.is("frost(false)", x.frost(false), 1);
        Due.is("count(17)", x.count(17), 0);
        Due.is("fieldOf(0, 5)", x.fieldOf(0, 5), 24);
        Due.is("fieldOf(0, 4)", x.fieldOf(0, 4), 0);
        x.hours(24);
        Due.is("fieldOf(0, 6) thawed", x.fieldOf(0, 6), 300);
    }

    private static void coveredAndThawed() {
        BeetHouse x = heap(10, 100);
        x.table(5, 10);
        x.frost(true);
        x.frost(false);
        Due.is("cover of a thawed heap", x.cover(0, true), 1);
        x.hours(23);
        Due.is("fieldOf(0, 6) thawed counts, not covered", x.fieldOf(0, 6), 30);
        Due.is("frost(true) a covered one does not freeze", x.frost(true), 0);
        Due.is("fieldOf(0, 5) and stays thawed", x.fieldOf(0, 5), 1);
        Due.is("frost(false)", x.frost(false), 0);
        Due.is("fieldOf(0, 5) since then", x.fieldOf(0, 5), 1);
        x.hours(49);
        Due.is("fieldOf(0, 7) spoiled at hour 73", x.fieldOf(0, 7), 10);
        Due.is("fieldOf(0, 3) no more covered", x.fieldOf(0, 3), 0);
        Due.is("fieldOf(0, 5) no more thawed", x.fieldOf(0, 5), -9);
    }

    private static void frozenAgain() {
        BeetHouse x = heap(10, 100);
        x.frost(true);
        x.frost(false);
        x.hours(71);
        Due.is("fieldOf(0, 5)", x.fieldOf(0, 5), 1);
        Due.is("frost(true) one hour before it is spoiled", x.frost(true), 1);
        Due.is("fieldOf(0, 5) not thawed", x.fieldOf(0, 5), -9);
        x.hours(100);
        Due.is("fieldOf(0, 1)", x.fieldOf(0, 1), 10);
        Due.is("frost(false)", x.frost(false), 1);
        Due.is("fieldOf(0, 5) anew", x.fieldOf(0, 5), 172);
        x.hours(71);
        Due.is("fieldOf(0, 1) after 71", x.fieldOf(0, 1), 10);
        x.hours(1);
        Due.is("fieldOf(0, 1) after 72", x.fieldOf(0, 1), 0);
    }

    private static void spoiledAtSeventyTwo() {
        BeetHouse x = heap(350, 100);
        x.table(5, 10);
        x.frost(true);
        x.frost(false);
        Due.is("fieldOf(0, 1)", x.fieldOf(0, 1), 200);
        x.gang(0, 0, -1);
        x.gang(1, 1, 0);
        x.hours(71);
        Due.is("fieldOf(0, 1) lifting goes to the thawed heap", x.fieldOf(0, 1), 271);
        int wasted = x.fieldOf(0, 6);
        Due.is("count(9)", x.count(9), 0);
        x.hours(1);
        Due.is("fieldOf(0, 1)", x.fieldOf(0, 1), 0);
        Due.is("fieldOf(0, 2)", x.fieldOf(0, 2), 0);
        Due.is("fieldOf(0, 5)", x.fieldOf(0, 5), -9);
        Due.is("fieldOf(0, 6) spoiled is not wasted", x.fieldOf(0, 6), wasted);
        Due.is("fieldOf(0, 7)", x.fieldOf(0, 7), 272);
        Due.is("count(9)", x.count(9), 272);
        Due.is("count(8)", x.count(8), wasted);
        x.hours(1);
        Due.is("fieldOf(0, 1) a new heap", x.fieldOf(0, 1), 1);
        Due.is("fieldOf(0, 5) not thawed", x.fieldOf(0, 5), -9);
    }

    /** An empty heap is no more THAWED; it stays COVERED. */
    private static void emptiedHeaps() {
        BeetHouse x = heap(205, 100);
        x.frost(true);
        x.frost(false);
        x.cover(0, true);
        x.gang(0, 0, -1);
        x.gang(1, 0, -1);
        x.lorry(100);
        x.lorry(100);
        x.send(0, 0);
        x.hours(1);
        Due.is("fieldOf(0, 5) half is left", x.fieldOf(0, 5), 1);
        x.send(1, 0);
        x.hours(1);
        Due.is("fieldOf(0, 1)", x.fieldOf(0, 1), 0);
        Due.is("fieldOf(0, 2)", x.fieldOf(0, 2), 0);
        Due.is("fieldOf(0, 5) nothing is left", x.fieldOf(0, 5), -9);
        Due.is("fieldOf(0, 3)", x.fieldOf(0, 3), 1);
        Due.is("cover(0, false) of an empty heap", x.cover(0, false), -3);
        x.gang(0, 5, 0);
        x.hours(100);
        Due.is("fieldOf(0, 1) not spoiled", x.fieldOf(0, 1), 5);
        Due.is("fieldOf(0, 3) still covered", x.fieldOf(0, 3), 1);
        Due.is("frost(true)", x.frost(true), 0);
    }

    /** A heap that is emptied while it is FROZEN is not THAWED when the frost ends. */
    private static void emptiedInFrost() {
        BeetHouse x = heap(150, 100);
        x.field(0, 10, 50, 1, false);
        x.gang(0, 10, 1);
        x.hours(1);
        Due.is("frost(true)", x.frost(true), 2);
        x.lorry(100);
        x.lorry(100);
        x.send(0, 0);
        x.send(1, 0);
        x.hours(1);
        Due.is("lorryOf(0, 3)", x.lorryOf(0, 3), 100);
        Due.is("lorryOf(1, 3)", x.lorryOf(1, 3), 50);
        Due.is("fieldOf(0, 1)", x.fieldOf(0, 1), 0);
        Due.is("frost(false)", x.frost(false), 1);
        Due.is("fieldOf(0, 4)", x.fieldOf(0, 4), 0);
        Due.is("fieldOf(0, 5)", x.fieldOf(0, 5), -9);
        Due.is("fieldOf(1, 5)", x.fieldOf(1, 5), 3);
    }

    private static void frostStopsGangs() {
        BeetHouse x = heap(1000, 100);
        x.field(1, 10, 60, 1, false);
        x.frost(true);
        x.gang(2, 5, 1);
        x.hours(5);
        Due.is("fieldOf(0, 1)", x.fieldOf(0, 1), 200);
        Due.is("fieldOf(1, 1)", x.fieldOf(1, 1), 0);
        Due.is("fieldOf(1, 4) no roots, not frozen", x.fieldOf(1, 4), 0);
        Due.is("frost(false)", x.frost(false), 1);
        x.hours(1);
        Due.is("fieldOf(0, 1)", x.fieldOf(0, 1), 400);
        Due.is("fieldOf(0, 5) lifting leaves it thawed", x.fieldOf(0, 5), 6);
        Due.is("fieldOf(1, 1)", x.fieldOf(1, 1), 5);
        Due.is("fieldOf(1, 5)", x.fieldOf(1, 5), -9);
    }

    private static void refusals() {
        Consumer<BeetHouse> lying = b -> {
            b.field(0, 50, 100, 2, false);
            b.field(0, 50, 100, 2, false);
            b.gang(0, 50, 0);
            b.table(5, 20);
            b.hours(1);
        };
        int[] nobody = {-1, 2, Integer.MIN_VALUE, Integer.MAX_VALUE};
        for (int f : nobody) {
            Due.refused("cover(" + f + ", true)", lying, b -> b.cover(f, true), -1);
        }
        Due.refused("cover(1, true) without roots", lying, b -> b.cover(1, true), -3);
        Due.refused("cover(1, false) without roots", lying, b -> b.cover(1, false), -3);
        Consumer<BeetHouse> frozen = lying.andThen(b -> b.frost(true));
        Due.refused("cover(0, true) frozen", frozen, b -> b.cover(0, true), -3);
        Due.refused("cover(0, false) frozen", frozen, b -> b.cover(0, false), -3);
        Due.refused("frost(true) in frost", frozen, b -> b.frost(true), -3);
        Due.refused("frost(false) without frost", lying, b -> b.frost(false), -3);
    }
}
