/** States in which much is under way, so that a refused call that changed something would be seen. */
final class Busy {
    private Busy() {
    }

    /** Hour 8: a heap as it is, one THAWED, one COVERED, none; lorries OUT, BACK, WAITING, HOME; two loads in THE YARD. */
    static void thawed(BeetHouse x) {
        x.field(0, 300, 200, 2, false);
        x.field(1, 200, 100, 1, true);
        x.field(1, 120, 250, 12, false);
        x.field(5, 40, 50, 3, false);
        numbers(x);
        x.gang(1, 40, 1);
        x.hours(1);
        x.frost(true);
        x.frost(false);
        x.gang(0, 20, 0);
        x.gang(1, 2, 1);
        x.gang(2, 10, 2);
        x.lorry(12);
        x.lorry(20);
        x.lorry(25);
        x.lorry(7);
        x.send(0, 1);
        x.send(3, 1);
        x.hours(1);
        x.cover(2, true);
        x.hours(2);
        x.send(2, 1);
        x.hours(1);
        x.send(1, 0);
        x.hours(2);
        x.send(0, 2);
        x.works(1, 2);
        x.hours(1);
    }

    /** The same, with FROST. */
    static void frosty(BeetHouse x) {
        thawed(x);
        x.frost(true);
    }

    private static void numbers(BeetHouse x) {
        x.works(0, 20);
        for (int i = 0; i < 10; i++) {
            x.price(i, 10 + i);
            x.table(i, 20 + i);
        }
        for (int f = 0; f < 6; f++) {
            x.share(f, 100 + f);
        }
        x.warmth(0, 9);
        x.warmth(1, 8);
        x.warmth(99, 1);
    }

    /** 16 FIELDS with a HEAP each, 8 LORRIES that are OUT. */
    static void full(BeetHouse x) {
        for (int f = 0; f < 16; f++) {
            x.field(f % 6, 30 + f, 100 + f, 1 + f % 12, f % 2 == 1);
        }
        for (int f = 0; f < 16; f += 4) {
            for (int g = 0; g < 4; g++) {
                x.gang(g, 20, f + g);
            }
            x.hours(1);
        }
        for (int l = 0; l < 8; l++) {
            x.lorry(10 + l);
            x.send(l, 2 * l);
        }
        x.works(1, 3);
        x.table(5, 30);
    }

    /** The last HOUR, with a heap, a load and lorries that are HOME, OUT and WAITING. */
    static void last(BeetHouse x) {
        x.field(2, 90, 120, 3, false);
        x.gang(0, 60, 0);
        x.lorry(10);
        x.lorry(20);
        x.lorry(30);
        x.works(0, 15);
        x.hours(2390);
        x.send(0, 0);
        x.send(1, 0);
        x.hours(9);
        x.send(2, 0);
        x.table(5, 30);
        x.works(1, 1);
        x.hours(1);
    }
}
