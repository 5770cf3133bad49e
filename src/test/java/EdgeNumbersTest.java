/**
 * Each number with a least and a greatest: both of them, one below, one above, the smallest and the greatest int; and all of a
 * call's numbers against one another, so that of two refusals the one that is told first comes.
 */
public final class EdgeNumbersTest {
    private interface Put {
        int put(BeetHouse x, int place, int v);
    }

    private interface Look {
        int look(BeetHouse x, int place, int what);
    }

    public static void main(String[] args) {
        puts("share: SHARE (0 .. 1000; 0 at first) of FARMERS 0 to 5", BeetHouse::share, 6, -1, 1000, 0);
        puts("table: 0 .. 100; 0 at first, at a WARMTH 0 .. 9", BeetHouse::table, 10, -2, 100, 0);
        puts("warmth: 0 .. 9 (5 at first) of each DAY (0 .. 99)", BeetHouse::warmth, 100, -1, 9, 5);
        puts("price: 0 .. 1000; 0 at first, of a STEP up to 9", BeetHouse::price, 10, -2, 1000, 0);
        works();
        fields();
        fieldsHold();
        gangs();
        gangsHold();
        lorries();
        lorriesHold();
        send();
        cover();
        hours();
        farmersOnly();
        orderPlaces();
        looks("fieldOf: 0 to 10 of a FIELD", BeetHouse::fieldOf, 4, 10);
        looks("lorryOf: 0 to 6 of a LORRY", BeetHouse::lorryOf, 4, 6);
        load();
        count();
        Due.end();
    }

    private static int[] edges(int least, int greatest) {
        return new int[] {Integer.MIN_VALUE, least - 1, least, greatest, greatest + 1, Integer.MAX_VALUE};
    }

    /** The refusal of a place that is not there, or 0. */
    private static int noSuch(int place, int places, int refusal) {
        return place < 0 || place >= places ? refusal : 0;
    }

    private static int below(int v, int least) {
        return v < least ? -4 : 0;
    }

    private static int above(int v, int greatest) {
        return v > greatest ? -6 : 0;
    }

    /** The first that fits, or 0. */
    private static int first(int... refusals) {
        for (int r : refusals) {
            if (r != 0) {
                return r;
            }
        }
        return 0;
    }

    private static void puts(String told, Put call, int places, int refusal, int greatest, int atFirst) {
        Due.says(told);
        for (int place : edges(0, places - 1)) {
            for (int v : edges(0, greatest)) {
                String name = "put at " + place + " of " + v;
                int due = first(noSuch(place, places, refusal), below(v, 0), above(v, greatest));
                if (due != 0) {
                    Due.refused(name, Busy::thawed, x -> call.put(x, place, v), due);
                } else {
                    putHolds(name, call, place, v, places, atFirst);
                }
            }
        }
    }

    private static void putHolds(String name, Put call, int place, int v, int places, int atFirst) {
        BeetHouse x = new BeetHouse();
        Due.is(name, call.put(x, place, v), atFirst);
        for (int other = 0; other < places; other++) {
            Due.is(name + ", what it was at " + other, call.put(x, other, 1), other == place ? v : atFirst);
        }
        Due.refusals(name, x);
    }

    private static void works() {
        Due.says("works: ROOM (0 .. 3000; 500 at first), RATE (0 .. 300; 0 at first)");
        for (int what : edges(0, 1)) {
            int greatest = what == 1 ? 300 : 3000;
            for (int v : edges(0, greatest)) {
                String name = "works(" + what + ", " + v + ")";
                int due = first(noSuch(what, 2, -2), below(v, 0), above(v, greatest));
                if (due != 0) {
                    Due.refused(name, Busy::thawed, x -> x.works(what, v), due);
                } else {
                    BeetHouse x = new BeetHouse();
                    Due.is(name, x.works(what, v), what == 0 ? 500 : 0);
                    Due.is(name + ", the other", x.works(1 - what, 1), what == 0 ? 0 : 500);
                    Due.is(name + ", what it was", x.works(what, 1), v);
                    Due.refusals(name, x);
                }
            }
        }
        Due.refused("works(1, 3000): the greatest ROOM is no RATE", Busy::thawed, x -> x.works(1, 3000), -6);
    }

    private static void fields() {
        Due.says("field: -1; -4 roots below 1, sweet below 50, way below 1; -6 above 5000, 250, 12");
        for (int farmer : edges(0, 5)) {
            for (int roots : edges(1, 5000)) {
                for (int sweet : edges(50, 250)) {
                    for (int way : edges(1, 12)) {
                        fieldOfEdges(farmer, roots, sweet, way);
                    }
                }
            }
        }
    }

    private static void fieldOfEdges(int farmer, int roots, int sweet, int way) {
        String name = "field(" + farmer + ", " + roots + ", " + sweet + ", " + way + ", ..)";
        int due = first(noSuch(farmer, 6, -1), below(roots, 1), below(sweet, 50), below(way, 1),
            above(roots, 5000), above(sweet, 250), above(way, 12));
        boolean stony = (roots + sweet + way) % 2 == 0;
        if (due != 0) {
            Due.refused(name, Busy::thawed, x -> x.field(farmer, roots, sweet, way, stony), due);
            return;
        }
        BeetHouse x = new BeetHouse();
        Busy.thawed(x);
        Due.is(name, x.field(farmer, roots, sweet, way, stony), 4);
        Due.field(name, x, 4, roots, 0, 0, 0, 0, -9, 0, 0, 0, farmer, 0);
        Due.is(name + ", count(1)", x.count(1), 5);
        Due.refusals(name, x);
    }

    /** The least and the greatest of SWEET and WAY are what lifting and lorries go by. */
    private static void fieldsHold() {
        Due.says("field: SWEET (50 .. 250), a WAY (1 .. 12 HOURS), whether they are STONY");
        for (int sweet : new int[] {50, 250}) {
            for (int way : new int[] {1, 12}) {
                for (int stony = 0; stony <= 1; stony++) {
                    BeetHouse x = new BeetHouse();
                    x.field(0, 5000, sweet, way, stony == 1);
                    x.gang(0, 1, 0);
                    x.lorry(100);
                    Due.is("send", x.send(0, 0), way);
                    x.hours(way);
                    Due.field("lifted", x, 0, 5000 - way, 0, 0);
                    Due.lorry("laden", x, 0, 2, 0, 2 * way + stony, way, way * sweet);
                }
            }
        }
    }

    private static void gangs() {
        Due.says("gang: GANGS 0 to 3, RATE (0 .. 100), FIELD (-1: none): -1; -4; -6");
        int[] fields = {Integer.MIN_VALUE, -2, -1, 0, 3, 4, Integer.MAX_VALUE};
        for (int g : edges(0, 3)) {
            for (int rate : edges(0, 100)) {
                for (int field : fields) {
                    String name = "gang(" + g + ", " + rate + ", " + field + ")";
                    int none = field == -1 ? 0 : noSuch(field, 4, -1);
                    int due = first(noSuch(g, 4, -1), none, below(rate, 0), above(rate, 100));
                    if (due != 0) {
                        Due.refused(name, Busy::thawed, x -> x.gang(g, rate, field), due);
                    } else {
                        BeetHouse x = new BeetHouse();
                        Busy.thawed(x);
                        Due.is(name, x.gang(g, rate, field), 1);
                        Due.refusals(name, x);
                    }
                }
            }
        }
    }

    private static void gangsHold() {
        Due.says("gang: a RATE (0 .. 100; 0 at first), a FIELD or none");
        int[] rates = {0, 1, 100};
        for (int g = 0; g < 4; g++) {
            for (int rate : rates) {
                BeetHouse x = new BeetHouse();
                x.field(0, 5000, 50, 1, false);
                Due.is("gang", x.gang(g, rate, 0), 1);
                x.hours(1);
                Due.field("gang " + g + " of rate " + rate, x, 0, 5000 - rate, rate, 50 * rate);
                Due.is("gang without a field", x.gang(g, rate, -1), 1);
                x.hours(1);
                Due.field("gang " + g + " without a field", x, 0, 5000 - rate, rate, 50 * rate);
            }
        }
        BeetHouse none = new BeetHouse();
        Due.is("gang(0, 100, -1) where there are no FIELDS", none.gang(0, 100, -1), 1);
        Due.is("gang(0, 100, 0) where there are no FIELDS", none.gang(0, 100, 0), -1);
    }

    private static void lorries() {
        Due.says("lorry: a LOAD (1 .. 100): -4; -6");
        for (int load : edges(1, 100)) {
            int due = first(below(load, 1), above(load, 100));
            if (due != 0) {
                Due.refused("lorry(" + load + ")", Busy::thawed, x -> x.lorry(load), due);
            } else {
                BeetHouse x = new BeetHouse();
                Busy.thawed(x);
                Due.is("lorry(" + load + ")", x.lorry(load), 4);
                Due.lorry("a new one", x, 4, 0, -9, -9, 0, 0, 0, 0);
                Due.is("count(2)", x.count(2), 5);
                Due.refusals("lorry(" + load + ")", x);
            }
        }
    }

    private static void lorriesHold() {
        Due.says("lorry: it takes LOAD roots, 1 .. 100");
        for (int load : new int[] {1, 100}) {
            BeetHouse x = new BeetHouse();
            x.field(0, 5000, 50, 2, false);
            x.gang(0, 100, 0);
            x.lorry(load);
            x.send(0, 0);
            x.hours(2);
            Due.lorry("laden", x, 0, 2, 0, 4, load, 50 * load);
            Due.field("the rest", x, 0, 4800, 200 - load, 50 * (200 - load));
        }
    }

    /** In the busy state lorry 0 is OUT, 3 is HOME. */
    private static void send() {
        Due.says("send: -1; -3");
        for (int lorry : edges(0, 3)) {
            for (int field : edges(0, 3)) {
                String name = "send(" + lorry + ", " + field + ")";
                int due = first(noSuch(lorry, 4, -1), noSuch(field, 4, -1), lorry == 0 ? -3 : 0);
                if (due != 0) {
                    Due.refused(name, Busy::thawed, x -> x.send(lorry, field), due);
                } else {
                    BeetHouse x = new BeetHouse();
                    Busy.thawed(x);
                    int there = field == 0 ? 10 : 11;
                    Due.is(name, x.send(lorry, field), there);
                    Due.lorry(name, x, lorry, 1, field, there, 0, 0, 0, 1);
                    Due.refusals(name, x);
                }
            }
        }
    }

    private static void cover() {
        Due.says("cover: -1; -3");
        for (int field : edges(0, 3)) {
            for (int on = 0; on <= 1; on++) {
                boolean covered = on == 1;
                String name = "cover(" + field + ", " + covered + ")";
                int due = first(noSuch(field, 4, -1), field == 3 ? -3 : 0);
                if (due != 0) {
                    Due.refused(name, Busy::thawed, x -> x.cover(field, covered), due);
                    Due.refused(name + " in frost", Busy::frosty, x -> x.cover(field, covered), due);
                } else {
                    BeetHouse x = new BeetHouse();
                    Busy.thawed(x);
                    Due.is(name, x.cover(field, covered), on);
                    Due.is(name + ", fieldOf", x.fieldOf(field, 3), on);
                    Due.refusals(name, x);
                }
            }
        }
    }

    private static void hours() {
        Due.says("hours: -4; -6 above 2400 in all");
        int[] wrong = {Integer.MIN_VALUE, -1, 0};
        for (int n : wrong) {
            Due.refused("hours(" + n + ")", Busy::thawed, x -> x.hours(n), -4);
            Due.refused("hours(" + n + ") at hour 2400", Busy::last, x -> x.hours(n), -4);
        }
        int[] long8 = {2393, 2400, Integer.MAX_VALUE - 8, Integer.MAX_VALUE - 7, Integer.MAX_VALUE};
        for (int n : long8) {
            Due.refused("hours(" + n + ") at hour 8", Busy::thawed, x -> x.hours(n), -6);
        }
        int[] atLast = {1, 2400, Integer.MAX_VALUE};
        for (int n : atLast) {
            Due.refused("hours(" + n + ") at hour 2400", Busy::last, x -> x.hours(n), -6);
        }
        int[] taken = {1, 2391, 2392};
        for (int n : taken) {
            BeetHouse x = new BeetHouse();
            Busy.thawed(x);
            Due.holds("hours(" + n + ") is taken", x.hours(n) >= 0);
            Due.is("count(0) behind hours(" + n + ")", x.count(0), 8 + n);
            Due.refusals("hours(" + n + ")", x);
        }
        BeetHouse fresh = new BeetHouse();
        Due.is("hours(2401) of a new one", fresh.hours(2401), -6);
        Due.is("hours(2400) of a new one", fresh.hours(2400), 0);
        Due.is("count(0)", fresh.count(0), 2400);
    }

    private static void farmersOnly() {
        Due.says("owed, coins: FARMERS are 0 to 5: -1");
        for (int farmer : edges(0, 5)) {
            if (noSuch(farmer, 6, -1) != 0) {
                Due.refused("owed(" + farmer + ")", Busy::thawed, x -> x.owed(farmer), -1);
                Due.refused("coins(" + farmer + ")", Busy::thawed, x -> x.coins(farmer), -1);
            } else {
                BeetHouse x = new BeetHouse();
                Busy.thawed(x);
                int share = farmer == 0 ? 100 : 105;
                Due.is("owed(" + farmer + ")", x.owed(farmer), 1000000000 + share * 19);
                Due.is("coins(" + farmer + ")", x.coins(farmer), 0);
                Due.is("coins(1)", x.coins(1), 19 * 14);
                Due.refusals("farmer " + farmer, x);
            }
        }
    }

    private static void orderPlaces() {
        Due.says("order: the FIELD at place i; -9 if there are not so many");
        int[][] places = {{Integer.MIN_VALUE, -9}, {-1, -9}, {0, 1}, {1, 0}, {2, 2}, {3, -9}, {8, -9}, {Integer.MAX_VALUE, -9}};
        for (int[] p : places) {
            BeetHouse x = new BeetHouse();
            Busy.thawed(x);
            Due.is("order(" + p[0] + ")", x.order(p[0]), p[1]);
            Due.refusals("order(" + p[0] + ")", x);
        }
    }

    private static void looks(String told, Look call, int places, int greatest) {
        Due.says(told);
        for (int place : edges(0, places - 1)) {
            for (int what : edges(0, greatest)) {
                String name = "look at " + place + ", " + what;
                int due = first(noSuch(place, places, -1), noSuch(what, greatest + 1, -2));
                if (due != 0) {
                    Due.refused(name, Busy::thawed, x -> call.look(x, place, what), due);
                } else {
                    BeetHouse x = new BeetHouse();
                    Busy.thawed(x);
                    Due.holds(name + " answers", call.look(x, place, what) >= 0);
                    Due.refusals(name, x);
                }
            }
        }
    }

    /** In the busy state there are two loads. */
    private static void load() {
        Due.says("load: -9 there is none such, or another what");
        int[][] due = {{1, 11, 1200}, {1, 7, 700}};
        for (int i : edges(0, 1)) {
            for (int what : edges(0, 2)) {
                BeetHouse x = new BeetHouse();
                Busy.thawed(x);
                boolean there = i >= 0 && i <= 1 && what >= 0 && what <= 2;
                Due.is("load(" + i + ", " + what + ")", x.load(i, what), there ? due[i][what] : -9);
                Due.refusals("load(" + i + ", " + what + ")", x);
            }
        }
    }

    private static void count() {
        Due.says("count: 0 .. 9, 11 .. 17; -9 for another what");
        int[][] due = {{Integer.MIN_VALUE, -9}, {-1, -9}, {0, 8}, {9, 0}, {10, -9}, {11, 1}, {16, 0}, {17, 1}, {18, -9}, {Integer.MAX_VALUE, -9}};
        for (int[] d : due) {
            BeetHouse x = new BeetHouse();
            Busy.frosty(x);
            x.coins(6);
            Due.is("count(" + d[0] + ")", x.count(d[0]), d[1]);
            Due.refusals("count(" + d[0] + ")", x, 1);
        }
    }
}
