import java.util.Random;

/** All promises: runs of 512 chance calls (always the same ones) answer what the slow model answers. */
public final class ModelTest {
    private static final int RUNS = 1500;
    private static final int CALLS = 512;
    private static final String[] NAMES = {"share", "field", "gang", "lorry", "send", "turn", "works", "table", "warmth", "price", "cover",
        "frost", "hours", "owed", "next", "best", "order", "fieldOf", "lorryOf", "load", "coins", "count"};
    private static final int[] ODD = {-1, -2, -9, 0, 1, 6, 8, 10, 16, 17, 49, 100, 101, 251, 301, 1001, 2401, 3001, 5001,
        Integer.MIN_VALUE, Integer.MAX_VALUE};

    public static void main(String[] args) {
        for (int run = 0; run < RUNS; run++) {
            run(run);
        }
        Due.end();
    }

    private static void run(int run) {
        Random r = new Random(run);
        int[] often = new int[NAMES.length];
        for (int i = 0; i < often.length; i++) {
            often[i] = 1 + r.nextInt(8);
        }
        often[12] += 6;
        often[4] += r.nextInt(12);
        often[5] += r.nextInt(12);
        often[11] = r.nextInt(4);
        often[15] = 1;
        often[16] = 1;
        int fields = 1 + r.nextInt(run % 4 == 0 ? 16 : 6);
        int longest = run % 3 == 0 ? 3 : run % 3 == 1 ? 20 : 80;
        int odd = 2 + r.nextInt(60);
        BeetHouse x = new BeetHouse();
        Model m = new Model();
        for (int i = 0; i < CALLS; i++) {
            String name = i < fields ? "field" : NAMES[pick(r, often)];
            if (name.equals("field") && i >= fields && r.nextInt(10) > 0) {
                name = "turn";
            }
            int[] a = arguments(r, name, fields, longest);
            if (r.nextInt(odd) == 0) {
                a[r.nextInt(4)] = ODD[r.nextInt(ODD.length)];
            }
            boolean on = r.nextBoolean();
            String told = "run " + run + ", call " + i + ": " + name + "(" + a[0] + ", " + a[1] + ", " + a[2] + ", " + a[3] + ", " + on + ")";
            Due.is(told, ask(x, name, a, on), m.call(name, a[0], a[1], a[2], a[3], on));
        }
    }

    private static int pick(Random r, int[] often) {
        int sum = 0;
        for (int n : often) {
            sum += n;
        }
        int at = r.nextInt(sum);
        int i = 0;
        while (at >= often[i]) {
            at -= often[i];
            i++;
        }
        return i;
    }

    private static int[] arguments(Random r, String name, int fields, int longest) {
        switch (name) {
            case "share": return new int[] {r.nextInt(6), r.nextInt(1001), 0, 0};
            case "field": return new int[] {r.nextInt(6), 1 + r.nextInt(r.nextBoolean() ? 5000 : 60), 50 + r.nextInt(201), 1 + r.nextInt(12), 0};
            case "gang": return new int[] {r.nextInt(4), r.nextInt(101), r.nextInt(fields + 1) - 1, 0};
            case "lorry": return new int[] {1 + r.nextInt(100), 0, 0, 0};
            case "send": return new int[] {r.nextInt(8), r.nextInt(fields), 0, 0};
            case "works": return r.nextBoolean() ? new int[] {0, r.nextInt(r.nextBoolean() ? 3001 : 120), 0, 0}
                : new int[] {1, r.nextInt(r.nextBoolean() ? 301 : 9), 0, 0};
            case "table": return new int[] {r.nextInt(10), r.nextInt(101), 0, 0};
            case "warmth": return new int[] {r.nextInt(100), r.nextInt(10), 0, 0};
            case "price": return new int[] {r.nextInt(10), r.nextInt(1001), 0, 0};
            case "hours": return new int[] {1 + r.nextInt(longest), 0, 0, 0};
            case "fieldOf": return new int[] {r.nextInt(fields), r.nextInt(11), 0, 0};
            case "lorryOf": return new int[] {r.nextInt(8), r.nextInt(7), 0, 0};
            case "load": return new int[] {r.nextInt(5), r.nextInt(3), 0, 0};
            case "count": return new int[] {r.nextInt(18), 0, 0, 0};
            case "order": return new int[] {r.nextInt(6), 0, 0, 0};
            case "cover": return new int[] {r.nextInt(fields), 0, 0, 0};
            default: return new int[] {r.nextInt(6), 0, 0, 0};
        }
    }

    private static int ask(BeetHouse x, String name, int[] a, boolean on) {
        switch (name) {
            case "share": return x.share(a[0], a[1]);
            case "field": return x.field(a[0], a[1], a[2], a[3], on);
            case "gang": return x.gang(a[0], a[1], a[2]);
            case "lorry": return x.lorry(a[0]);
            case "send": return x.send(a[0], a[1]);
            case "turn": return x.turn();
            case "works": return x.works(a[0], a[1]);
            case "table": return x.table(a[0], a[1]);
            case "warmth": return x.warmth(a[0], a[1]);
            case "price": return x.price(a[0], a[1]);
            case "cover": return x.cover(a[0], on);
            case "frost": return x.frost(on);
            case "hours": return x.hours(a[0]);
            case "owed": return x.owed(a[0]);
            case "next": return x.next();
            case "best": return x.best();
            case "order": return x.order(a[0]);
            case "fieldOf": return x.fieldOf(a[0], a[1]);
            case "lorryOf": return x.lorryOf(a[0], a[1]);
            case "load": return x.load(a[0], a[1]);
            case "coins": return x.coins(a[0]);
            default: return x.count(a[0]);
        }
    }
}
