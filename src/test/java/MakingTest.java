import java.util.function.Consumer;

/** Promises 3, 4, 5, 6: fields, gangs, lorries and sending them. */
public final class MakingTest {
    private static final int LOW = Integer.MIN_VALUE;
    private static final int HIGH = Integer.MAX_VALUE;

    public static void main(String[] args) {
        fields();
        fieldRefusals();
        gangs();
        gangRefusals();
        lorries();
        send();
        sendRefusals();
        Due.end();
    }

    private static void fields() {
        BeetHouse x = new BeetHouse();
        Due.is("field(5, 5000, 250, 12, true)", x.field(5, 5000, 250, 12, true), 0);
        Due.is("field(0, 1, 50, 1, false)", x.field(0, 1, 50, 1, false), 1);
        int[] first = {5000, 0, 0, 0, 0, -9, 0, 0, 0, 5, 0};
        int[] second = {1, 0, 0, 0, 0, -9, 0, 0, 0, 0, 0};
        for (int what = 0; what <= 10; what++) {
            Due.is("fieldOf(0, " + what + ")", x.fieldOf(0, what), first[what]);
            Due.is("fieldOf(1, " + what + ")", x.fieldOf(1, what), second[what]);
        }
        for (int i = 2; i < 16; i++) {
            Due.is("field " + i, x.field(3, 10, 60, 2, false), i);
        }
        Due.is("count(1)", x.count(1), 16);
        Due.is("a field too many", x.field(3, 10, 60, 2, false), -6);
        Due.is("a field too many, and below", x.field(3, 0, 60, 2, false), -4);
        Due.is("a field too many, of nobody", x.field(6, 10, 60, 2, false), -1);
        Due.is("count(1) still", x.count(1), 16);
        Due.is("count(16)", x.count(16), 1);
    }

    private static void fieldRefusals() {
        int[][] wrong = {
            {-1, 1, 50, 1, -1}, {6, 1, 50, 1, -1}, {LOW, 0, 0, 0, -1}, {HIGH, 5001, 251, 13, -1},
            {0, 0, 50, 1, -4}, {0, LOW, 50, 1, -4}, {0, 1, 49, 1, -4}, {0, 1, LOW, 1, -4}, {0, 1, 50, 0, -4}, {0, 1, 50, LOW, -4},
            {0, 5001, 49, 1, -4}, {0, 5001, 50, 0, -4}, {0, 0, 251, 13, -4}, {0, 1, 251, 0, -4},
            {0, 5001, 50, 1, -6}, {0, HIGH, 50, 1, -6}, {0, 1, 251, 1, -6}, {0, 1, HIGH, 1, -6}, {0, 1, 50, 13, -6}, {0, 1, 50, HIGH, -6}};
        for (int[] w : wrong) {
            Due.refused("field(" + w[0] + ", " + w[1] + ", " + w[2] + ", " + w[3] + ", false)", b -> b.field(1, 9, 50, 1, false),
                b -> b.field(w[0], w[1], w[2], w[3], false), w[4]);
        }
    }

    private static void gangs() {
        BeetHouse x = new BeetHouse();
        x.field(0, 250, 100, 1, false);
        x.field(0, 30, 50, 1, false);
        Due.is("gang(0, 100, 0)", x.gang(0, 100, 0), 1);
        Due.is("gang(3, 20, 0)", x.gang(3, 20, 0), 1);
        Due.is("gang(1, 7, 1)", x.gang(1, 7, 1), 1);
        x.hours(1);
        Due.is("fieldOf(0, 0) two gangs at one field", x.fieldOf(0, 0), 130);
        Due.is("fieldOf(0, 1)", x.fieldOf(0, 1), 120);
        Due.is("fieldOf(0, 2)", x.fieldOf(0, 2), 12000);
        Due.is("fieldOf(1, 1)", x.fieldOf(1, 1), 7);
        x.hours(2);
        Due.is("fieldOf(0, 0) nothing left", x.fieldOf(0, 0), 0);
        Due.is("fieldOf(0, 1)", x.fieldOf(0, 1), 250);
        Due.is("fieldOf(0, 2)", x.fieldOf(0, 2), 25000);
        Due.is("gang(1, 9, -1)", x.gang(1, 9, -1), 1);
        x.hours(1);
        Due.is("fieldOf(1, 1) no field", x.fieldOf(1, 1), 21);
        Due.is("gang(1, 0, 1)", x.gang(1, 0, 1), 1);
        x.hours(1);
        Due.is("fieldOf(1, 1) no rate", x.fieldOf(1, 1), 21);
        Due.is("gang(1, 1, 1)", x.gang(1, 1, 1), 1);
        Due.is("gang(1, 2, 1) anew", x.gang(1, 2, 1), 1);
        x.hours(1);
        Due.is("fieldOf(1, 1)", x.fieldOf(1, 1), 23);
    }

    private static void gangRefusals() {
        int[][] wrong = {{-1, 0, 0, -1}, {4, 0, 0, -1}, {0, 0, 1, -1}, {0, 0, -2, -1}, {LOW, -1, 0, -1}, {HIGH, 101, 0, -1}, {0, -1, 1, -1},
            {0, 101, HIGH, -1}, {0, 101, LOW, -1}, {0, -1, 0, -4}, {0, LOW, -1, -4}, {3, 101, 0, -6}, {0, HIGH, -1, -6}};
        for (int[] w : wrong) {
            Due.refused("gang(" + w[0] + ", " + w[1] + ", " + w[2] + ")", MakingTest::oneGang, b -> b.gang(w[0], w[1], w[2]), w[3]);
        }
    }

    private static void oneGang(BeetHouse b) {
        b.field(0, 200, 50, 1, false);
        b.gang(0, 3, 0);
    }

    private static void lorries() {
        BeetHouse x = new BeetHouse();
        Due.is("lorry(100)", x.lorry(100), 0);
        Due.is("lorry(1)", x.lorry(1), 1);
        int[] fresh = {0, -9, -9, 0, 0, 0, 0};
        for (int what = 0; what <= 6; what++) {
            Due.is("lorryOf(1, " + what + ")", x.lorryOf(1, what), fresh[what]);
        }
        for (int i = 2; i < 8; i++) {
            Due.is("lorry " + i, x.lorry(i), i);
        }
        Due.is("count(2)", x.count(2), 8);
        Due.is("a lorry too many", x.lorry(5), -6);
        Due.is("a lorry too many, and below", x.lorry(0), -4);
        Due.is("count(2) still", x.count(2), 8);
        int[][] wrong = {{0, -4}, {-1, -4}, {LOW, -4}, {101, -6}, {HIGH, -6}};
        for (int[] w : wrong) {
            Due.refused("lorry(" + w[0] + ")", b -> b.lorry(5), b -> b.lorry(w[0]), w[1]);
        }
    }

    private static void send() {
        BeetHouse x = new BeetHouse();
        x.field(0, 50, 100, 12, true);
        x.lorry(10);
        x.hours(5);
        Due.is("send(0, 0) is there without the stony hour", x.send(0, 0), 17);
        Due.is("lorryOf(0, 0)", x.lorryOf(0, 0), 1);
        Due.is("lorryOf(0, 1)", x.lorryOf(0, 1), 0);
        Due.is("lorryOf(0, 2)", x.lorryOf(0, 2), 17);
        Due.is("fieldOf(0, 10)", x.fieldOf(0, 10), 1);
        x.hours(11);
        Due.is("lorryOf(0, 0) still out", x.lorryOf(0, 0), 1);
        x.hours(1);
        Due.is("lorryOf(0, 0) back, empty", x.lorryOf(0, 0), 2);
        Due.is("lorryOf(0, 1)", x.lorryOf(0, 1), 0);
        Due.is("lorryOf(0, 2) one more: it is stony", x.lorryOf(0, 2), 30);
        Due.is("fieldOf(0, 10)", x.fieldOf(0, 10), 0);
        x.hours(12);
        Due.is("lorryOf(0, 0) still back", x.lorryOf(0, 0), 2);
        x.hours(1);
        Due.is("lorryOf(0, 0) home", x.lorryOf(0, 0), 0);
        Due.is("lorryOf(0, 1) home", x.lorryOf(0, 1), -9);
        Due.is("lorryOf(0, 2) home", x.lorryOf(0, 2), -9);
        Due.is("lorryOf(0, 6) no roots, no load", x.lorryOf(0, 6), 0);
        x.hours(2370);
        Due.is("send(0, 0) at the last hour", x.send(0, 0), 2412);
    }

    private static void sendRefusals() {
        Consumer<BeetHouse> home = b -> {
            b.field(0, 50, 100, 2, false);
            b.lorry(10);
        };
        int[][] nobody = {{-1, 0}, {1, 0}, {0, -1}, {0, 1}, {LOW, 0}, {HIGH, 0}, {0, LOW}, {0, HIGH}};
        for (int[] w : nobody) {
            Due.refused("send(" + w[0] + ", " + w[1] + ")", home, b -> b.send(w[0], w[1]), -1);
        }
        Consumer<BeetHouse> out = home.andThen(b -> {
            b.gang(0, 10, 0);
            b.send(0, 0);
        });
        Due.refused("send of one that is OUT", out, b -> b.send(0, 0), -3);
        Due.refused("send of one that is OUT to no field", out, b -> b.send(0, 1), -1);
        Due.refused("send of one that is BACK", out.andThen(b -> b.hours(3)), b -> b.send(0, 0), -3);
        Due.refused("send of one that WAITS", out.andThen(b -> b.works(0, 0)).andThen(b -> b.hours(9)), b -> b.send(0, 0), -3);
    }
}
