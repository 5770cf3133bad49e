/** What may be empty or full: fields, lorries, heaps, the yard, the hours. */
public final class EdgeEmptyFullTest {
    public static void main(String[] args) {
        noField();
        noLorry();
        noHeap();
        emptyYard();
        justRoom();
        roomOfNothing();
        fullestYard();
        sixteenFields();
        sixteenHeaps();
        eightLorries();
        eightTurns();
        eightHeapsOfSixteen();
        lastHour();
        comesAtTheLastHour();
        Due.end();
    }

    private static void noField() {
        Due.says("no FIELD");
        BeetHouse x = new BeetHouse();
        x.lorry(10);
        x.works(1, 7);
        Due.is("count(1)", x.count(1), 0);
        Due.is("gang(0, 5, 0)", x.gang(0, 5, 0), -1);
        Due.is("gang(0, 5, -1)", x.gang(0, 5, -1), 1);
        Due.is("send(0, 0)", x.send(0, 0), -1);
        Due.is("turn()", x.turn(), -9);
        Due.is("next()", x.next(), -9);
        Due.is("cover(0, true)", x.cover(0, true), -1);
        Due.is("frost(true)", x.frost(true), 0);
        Due.is("frost(false)", x.frost(false), 0);
        Due.is("best()", x.best(), 0);
        Due.is("order(0)", x.order(0), -9);
        Due.is("fieldOf(0, 0)", x.fieldOf(0, 0), -1);
        Due.is("hours(2400)", x.hours(2400), 0);
        Due.is("count(6)", x.count(6), 2400);
        Due.is("count(7)", x.count(7), 2400 * 7);
        Due.is("count(8)", x.count(8), 0);
        Due.is("count(9)", x.count(9), 0);
        Due.lorry("at the end", x, 0, 0, -9, -9, 0, 0, 0, 0);
        Due.refusals("without a field", x, 4);
    }

    private static void noLorry() {
        Due.says("no LORRY");
        BeetHouse x = new BeetHouse();
        x.field(3, 10, 100, 1, false);
        x.gang(0, 10, 0);
        x.hours(1);
        Due.is("count(2)", x.count(2), 0);
        Due.is("next()", x.next(), 3);
        Due.is("turn()", x.turn(), -3);
        Due.is("send(0, 0)", x.send(0, 0), -1);
        Due.is("lorryOf(0, 0)", x.lorryOf(0, 0), -1);
        Due.is("fieldOf(0, 10)", x.fieldOf(0, 10), 0);
        Due.is("hours(30)", x.hours(30), 0);
        Due.field("nothing is taken", x, 0, 0, 10, 1000, 0, 0, -9, 0, 0, 0, 3, 0);
    }

    private static void noHeap() {
        Due.says("no HEAP with ROOTS");
        BeetHouse x = new BeetHouse();
        x.field(0, 10, 100, 1, false);
        x.field(1, 10, 100, 1, true);
        x.lorry(10);
        x.works(1, 7);
        x.table(5, 100);
        Due.is("next()", x.next(), -9);
        Due.is("turn()", x.turn(), -9);
        Due.is("lorryOf(0, 0) is not sent", x.lorryOf(0, 0), 0);
        Due.is("cover(0, true)", x.cover(0, true), -3);
        Due.is("frost(true)", x.frost(true), 0);
        Due.is("fieldOf(0, 4)", x.fieldOf(0, 4), 0);
        Due.is("frost(false)", x.frost(false), 0);
        Due.is("fieldOf(0, 5)", x.fieldOf(0, 5), -9);
        Due.is("best()", x.best(), 0);
        Due.is("order(0)", x.order(0), -9);
        x.hours(96);
        Due.is("count(8)", x.count(8), 0);
        Due.is("count(9)", x.count(9), 0);
        Due.field("as it was", x, 0, 10, 0, 0, 0, 0, -9, 0, 0, 0, 0, 0);
    }

    private static void emptyYard() {
        Due.says("an empty YARD");
        BeetHouse x = new BeetHouse();
        Due.yard("at first", x);
        x.field(0, 3, 100, 1, false);
        x.gang(0, 3, 0);
        x.lorry(3);
        x.send(0, 0);
        x.hours(2);
        Due.yard("with one load", x, 0, 3, 300);
        x.works(1, 3);
        Due.is("hours(1)", x.hours(1), 3);
        Due.yard("eaten", x);
        Due.is("count(3)", x.count(3), 0);
        Due.is("count(7)", x.count(7), 0);
        Due.is("hours(1)", x.hours(1), 0);
        Due.is("count(7)", x.count(7), 3);
        Due.is("count(6)", x.count(6), 1);
    }

    /** Two loads of 10: the second finds room in 20, not in 19. */
    private static void justRoom() {
        Due.says("a YARD with just room, and with one root too few");
        int[] rooms = {9, 10, 11, 19, 20, 21};
        for (int room : rooms) {
            BeetHouse x = new BeetHouse();
            x.field(0, 20, 100, 1, false);
            x.gang(0, 20, 0);
            x.lorry(10);
            x.lorry(10);
            x.works(0, room);
            x.send(0, 0);
            x.send(1, 0);
            x.hours(2);
            String when = "with ROOM " + room;
            int in = room < 10 ? 0 : room < 20 ? 10 : 20;
            Due.is("count(3) " + when, x.count(3), in);
            Due.is("lorryOf(0, 0) " + when, x.lorryOf(0, 0), in > 0 ? 0 : 3);
            Due.is("lorryOf(1, 0) " + when, x.lorryOf(1, 0), in > 10 ? 0 : 3);
            Due.is("lorryOf(0, 5) " + when, x.lorryOf(0, 5), in > 0 ? 0 : 1);
            Due.is("lorryOf(1, 5) " + when, x.lorryOf(1, 5), in > 10 ? 0 : 1);
            Due.is("fieldOf(0, 8) " + when, x.fieldOf(0, 8), in);
        }
    }

    private static void roomOfNothing() {
        Due.says("THE YARD has a ROOM (0 .. 3000)");
        BeetHouse x = new BeetHouse();
        x.field(0, 5, 100, 1, false);
        x.gang(0, 1, 0);
        x.lorry(1);
        x.works(0, 0);
        x.works(1, 1);
        x.send(0, 0);
        x.hours(10);
        Due.lorry("one root finds no room in 0", x, 0, 3, 0, -9, 1, 100, 9, 0);
        x.works(0, 1);
        Due.is("hours(1)", x.hours(1), 1);
        Due.lorry("one root finds room in 1", x, 0, 0, -9, -9, 0, 0, 9, 1);
    }

    /** 30 loads of 100 fill the greatest ROOM; one root more waits. */
    private static void fullestYard() {
        Due.says("ROOM 3000 is full");
        BeetHouse x = new BeetHouse();
        x.field(0, 5000, 100, 1, false);
        for (int g = 0; g < 4; g++) {
            x.gang(g, 100, 0);
        }
        x.works(0, 3000);
        x.hours(10);
        for (int l = 0; l < 6; l++) {
            x.lorry(100);
        }
        x.lorry(1);
        for (int round = 0; round < 5; round++) {
            for (int l = 0; l < 6; l++) {
                x.send(l, 0);
            }
            x.hours(2);
        }
        Due.is("count(3)", x.count(3), 3000);
        Due.is("load(29, 1)", x.load(29, 1), 100);
        Due.is("load(30, 1)", x.load(30, 1), -9);
        x.send(6, 0);
        x.hours(2);
        Due.is("lorryOf(6, 0)", x.lorryOf(6, 0), 3);
        x.works(1, 1);
        Due.is("hours(1) it eats behind that", x.hours(1), 1);
        Due.is("lorryOf(6, 0) still", x.lorryOf(6, 0), 3);
        x.works(1, 0);
        x.hours(1);
        Due.is("lorryOf(6, 0) just room", x.lorryOf(6, 0), 0);
        Due.is("count(3)", x.count(3), 3000);
        Due.is("load(0, 1)", x.load(0, 1), 99);
        Due.is("load(30, 1)", x.load(30, 1), 1);
        x.works(1, 300);
        Due.is("hours(10) the greatest RATE", x.hours(10), 3000);
        Due.is("count(5)", x.count(5), 300100);
        Due.is("count(6) eaten to the last unit", x.count(6), 0);
    }

    private static void sixteenFields() {
        Due.says("FIELDS have numbers from 0 on (16 at most)");
        BeetHouse x = new BeetHouse();
        for (int f = 0; f < 16; f++) {
            Due.is("field", x.field(f % 6, f + 1, 50 + f, 1 + f % 12, f % 2 == 0), f);
            Due.is("count(1)", x.count(1), f + 1);
        }
        Due.is("the 17th", x.field(0, 1, 50, 1, false), -6);
        Due.is("count(1)", x.count(1), 16);
        for (int f = 0; f < 16; f++) {
            Due.field("untouched", x, f, f + 1, 0, 0, 0, 0, -9, 0, 0, 0, f % 6, 0);
        }
        Due.is("fieldOf(16, 0)", x.fieldOf(16, 0), -1);
        x.lorry(100);
        Due.is("gang(3, 100, 15)", x.gang(3, 100, 15), 1);
        Due.is("gang(3, 100, 16)", x.gang(3, 100, 16), -1);
        Due.is("send(0, 16)", x.send(0, 16), -1);
        Due.is("send(0, 15)", x.send(0, 15), 4);
        Due.is("cover(16, true)", x.cover(16, true), -1);
        x.hours(1);
        Due.is("cover(15, true)", x.cover(15, true), 1);
        x.hours(3);
        Due.lorry("with field 15's roots", x, 0, 2, 15, 8, 16, 16 * 65);
    }

    private static void sixteenHeaps() {
        Due.says("all HEAPS, of 16");
        BeetHouse x = new BeetHouse();
        Busy.full(x);
        x.table(5, 100);
        Due.is("frost(true)", x.frost(true), 16);
        for (int f = 0; f < 16; f++) {
            Due.is("fieldOf(" + f + ", 4)", x.fieldOf(f, 4), 1);
        }
        Due.is("frost(false)", x.frost(false), 16);
        for (int f = 0; f < 16; f++) {
            Due.is("fieldOf(" + f + ", 5)", x.fieldOf(f, 5), 4);
            Due.is("cover(" + f + ", true)", x.cover(f, true), 1);
        }
        Due.is("frost(true) of COVERED ones", x.frost(true), 0);
        x.hours(71);
        int inHeaps = 0;
        for (int f = 0; f < 16; f++) {
            inHeaps += x.fieldOf(f, 1);
            Due.holds("fieldOf(" + f + ", 6) wastes", x.fieldOf(f, 6) > 0);
        }
        x.hours(1);
        int spoiled = 0;
        for (int f = 0; f < 16; f++) {
            Due.field("spoiled", x, f, 10 + f, 0, 0, 0, 0, -9);
            spoiled += x.fieldOf(f, 7);
        }
        Due.is("SPOILED of all", spoiled, inHeaps);
        Due.is("count(9)", x.count(9), inHeaps);
    }

    private static void eightLorries() {
        Due.says("LORRIES have numbers from 0 on (8 at most)");
        BeetHouse x = new BeetHouse();
        x.field(0, 100, 100, 1, false);
        x.gang(0, 100, 0);
        for (int l = 0; l < 8; l++) {
            Due.is("lorry", x.lorry(l + 1), l);
            Due.is("count(2)", x.count(2), l + 1);
        }
        Due.is("the 9th", x.lorry(1), -6);
        Due.is("count(2)", x.count(2), 8);
        Due.is("send(8, 0)", x.send(8, 0), -1);
        for (int l = 7; l >= 0; l--) {
            Due.is("send", x.send(l, 0), 1);
            Due.is("fieldOf(0, 10)", x.fieldOf(0, 10), 8 - l);
        }
        x.hours(1);
        Due.is("fieldOf(0, 10)", x.fieldOf(0, 10), 0);
        Due.is("fieldOf(0, 1)", x.fieldOf(0, 1), 100 - 36);
        x.hours(1);
        Due.yard("by the lorries' numbers", x, 0, 1, 100, 0, 2, 200, 0, 3, 300, 0, 4, 400, 0, 5, 500, 0, 6, 600, 0, 7, 700, 0, 8, 800);
        for (int l = 0; l < 8; l++) {
            Due.lorry("at home", x, l, 0, -9, -9, 0, 0, 0, 1);
        }
    }

    private static void eightTurns() {
        Due.says("TURN of 8 LORRIES");
        BeetHouse x = new BeetHouse();
        x.field(0, 100, 100, 1, false);
        x.gang(0, 100, 0);
        for (int l = 0; l < 8; l++) {
            x.lorry(12);
        }
        x.hours(1);
        for (int l = 0; l < 8; l++) {
            Due.is("lorryOf(" + l + ", 0) before its turn", x.lorryOf(l, 0), 0);
            Due.is("turn()", x.turn(), 0);
            Due.is("lorryOf(" + l + ", 0)", x.lorryOf(l, 0), 1);
        }
        Due.is("turn() with four roots to spare, no lorry", x.turn(), -3);
        Due.is("next()", x.next(), 0);
    }

    /** The last eight of 16 fields have heaps; a ninth makes it refuse, and it answers again when that is emptied. */
    private static void eightHeapsOfSixteen() {
        Due.says("of HEAPS with ROOTS (8 at most)");
        BeetHouse x = new BeetHouse();
        for (int f = 0; f < 16; f++) {
            x.field(0, 24, 100 + f, 1, false);
        }
        for (int f = 8; f < 16; f++) {
            x.gang(0, 24, f);
            x.hours(1);
        }
        x.works(1, 2);
        x.table(5, 100);
        Due.is("best() of eight", x.best(), 268 + 271 + 501 + 505 + 702 + 708);
        int[] due = {14, 15, 12, 13, 10, 11, 8, 9};
        for (int i = 0; i < 8; i++) {
            Due.is("order(" + i + ") two begin between ends of days", x.order(i), due[i]);
        }
        Due.is("order(8)", x.order(8), -9);
        x.gang(0, 24, 0);
        x.lorry(24);
        x.hours(1);
        Due.is("best() of nine", x.best(), -3);
        Due.is("order(0) of nine", x.order(0), -3);
        x.send(0, 0);
        x.hours(1);
        Due.is("fieldOf(0, 1)", x.fieldOf(0, 1), 0);
        Due.holds("best() of eight again", x.best() > 0);
        Due.is("order(8) of eight again", x.order(8), -9);
        Due.refusals("best", x, 0, 0, 2);
    }

    private static void lastHour() {
        Due.says("HOURS go on from 0 (2400 at most)");
        BeetHouse x = new BeetHouse();
        Busy.last(x);
        Due.is("count(0)", x.count(0), 2400);
        Due.is("hours(1)", x.hours(1), -6);
        Due.is("send(0, 0) at the last hour", x.send(0, 0), 2403);
        Due.lorry("it never comes there", x, 0, 1, 0, 2403, 0, 0, 0, 1);
        Due.is("lorryOf(2, 2)", x.lorryOf(2, 2), 2402);
        Due.is("cover(0, true)", x.cover(0, true), 1);
        Due.is("cover(0, false)", x.cover(0, false), 1);
        Due.is("frost(true)", x.frost(true), 1);
        Due.is("frost(false)", x.frost(false), 1);
        Due.is("fieldOf(0, 5)", x.fieldOf(0, 5), 2400);
        Due.is("best() no end of a day is left", x.best(), 0);
        Due.is("order(0)", x.order(0), 0);
        Due.is("warmth(99, 3)", x.warmth(99, 3), 5);
        Due.is("lorry(9)", x.lorry(9), 3);
        Due.is("field(0, 1, 50, 1, false)", x.field(0, 1, 50, 1, false), 1);
        Due.is("next() 60 roots, 10 and 30 taken", x.next(), 2);
        Due.is("turn()", x.turn(), 0);
        Due.is("count(0)", x.count(0), 2400);
    }

    private static void comesAtTheLastHour() {
        Due.says("HOUR 2400 passes whole");
        BeetHouse x = new BeetHouse();
        x.field(0, 20, 100, 1, false);
        x.gang(0, 20, 0);
        x.lorry(5);
        x.lorry(6);
        x.price(4, 10);
        x.works(1, 2);
        x.hours(2398);
        x.frost(true);
        x.frost(false);
        x.send(0, 0);
        x.hours(1);
        x.table(5, 100);
        x.send(1, 0);
        Due.is("hours(1)", x.hours(1), 2);
        Due.lorry("came at 2400", x, 0, 0, -9, -9, 0, 0, 0, 1);
        Due.lorry("was there at 2400", x, 1, 2, 0, 2401, 6, 600, 0, 0);
        Due.is("coins(0)", x.coins(0), 50);
        Due.field("wasted at 2400", x, 0, 0, 9, 900 - 270, 0, 0, 2398, 270);
    }
}
