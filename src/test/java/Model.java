import java.util.ArrayList;
import java.util.Arrays;
import java.util.List;

/** The document told once more, as slowly and as plainly as can be: roots are eaten one by one, orders are tried one by one. */
final class Model {
    private final int[] share = new int[6];
    private final long[] coins = new long[6];
    private final int[] warmth = new int[100];
    private final int[] table = new int[10];
    private final int[] price = new int[10];
    private final int[] refusals = new int[7];
    private final List<int[]> gangs = new ArrayList<>();
    private final List<F> fields = new ArrayList<>();
    private final List<L> lorries = new ArrayList<>();
    private final List<long[]> yard = new ArrayList<>();
    private int room = 500;
    private int rate = 0;
    private int hour = 0;
    private boolean frost = false;
    private long eaten = 0;
    private long won = 0;
    private long stood = 0;
    private long lack = 0;
    private long bestWaste;
    private List<Integer> bestOrder;

    private static final class F {
        int farmer;
        int ground;
        int sweet;
        int way;
        boolean stony;
        long roots;
        long sugar;
        boolean covered;
        boolean frozen;
        int thawed = -9;
        long wasted;
        long spoiled;
        long came;
    }

    private static final class L {
        int load;
        int does;
        int field = -9;
        int at = -9;
        long roots;
        long sugar;
        int drowned;
        int brought;
    }

    Model() {
        Arrays.fill(warmth, 5);
        for (int i = 0; i < 4; i++) {
            gangs.add(new int[] {0, -1});
        }
    }

    long call(String name, int a, int b, int c, int d, boolean on) {
        long answer = answer(name, a, b, c, d, on);
        if (answer <= -1 && answer >= -6) {
            refusals[(int) -answer]++;
        }
        return answer;
    }

    private long answer(String name, int a, int b, int c, int d, boolean on) {
        switch (name) {
            case "share": return a < 0 || a > 5 ? -1 : put(share, a, b, 1000);
            case "field": return field(a, b, c, d, on);
            case "gang": return gang(a, b, c);
            case "lorry": return lorry(a);
            case "send": return send(a, b);
            case "turn": return turn();
            case "works": return works(a, b);
            case "table": return a < 0 || a > 9 ? -2 : put(table, a, b, 100);
            case "warmth": return a < 0 || a > 99 ? -1 : put(warmth, a, b, 9);
            case "price": return a < 0 || a > 9 ? -2 : put(price, a, b, 1000);
            case "cover": return cover(a, on);
            case "frost": return frost(on);
            case "hours": return hours(a);
            case "owed": return a < 0 || a > 5 ? -1 : owed(a) + 1000000000L;
            case "next": return next();
            case "best": return best() ? bestWaste : -3;
            case "order": return !best() ? -3 : a < 0 || a >= bestOrder.size() ? -9 : bestOrder.get(a);
            case "fieldOf": return fieldOf(a, b);
            case "lorryOf": return lorryOf(a, b);
            case "load": return a < 0 || a >= yard.size() || b < 0 || b > 2 ? -9 : yard.get(a)[b];
            case "coins": return a < 0 || a > 5 ? -1 : coins[a];
            default: return count(a);
        }
    }

    private static long put(int[] row, int i, int v, int most) {
        if (v < 0) {
            return -4;
        }
        if (v > most) {
            return -6;
        }
        int was = row[i];
        row[i] = v;
        return was;
    }

    private long field(int farmer, int roots, int sweet, int way, boolean stony) {
        if (farmer < 0 || farmer > 5) {
            return -1;
        }
        if (roots < 1 || sweet < 50 || way < 1) {
            return -4;
        }
        if (roots > 5000 || sweet > 250 || way > 12 || fields.size() == 16) {
            return -6;
        }
        F f = new F();
        f.farmer = farmer;
        f.ground = roots;
        f.sweet = sweet;
        f.way = way;
        f.stony = stony;
        fields.add(f);
        return fields.size() - 1;
    }

    private long gang(int g, int r, int field) {
        if (g < 0 || g > 3 || field < -1 || field >= fields.size()) {
            return -1;
        }
        if (r < 0) {
            return -4;
        }
        if (r > 100) {
            return -6;
        }
        gangs.set(g, new int[] {r, field});
        return 1;
    }

    private long lorry(int load) {
        if (load < 1) {
            return -4;
        }
        if (load > 100 || lorries.size() == 8) {
            return -6;
        }
        L l = new L();
        l.load = load;
        lorries.add(l);
        return lorries.size() - 1;
    }

    private long send(int lorry, int field) {
        if (lorry < 0 || lorry >= lorries.size() || field < 0 || field >= fields.size()) {
            return -1;
        }
        L l = lorries.get(lorry);
        if (l.does != 0) {
            return -3;
        }
        l.does = 1;
        l.field = field;
        l.at = hour + fields.get(field).way;
        return l.at;
    }

    private long turn() {
        int home = -1;
        for (int i = lorries.size() - 1; i >= 0; i--) {
            home = lorries.get(i).does == 0 ? i : home;
        }
        if (home < 0) {
            return -3;
        }
        int farmer = next();
        if (farmer < 0) {
            return -9;
        }
        int to = -1;
        for (int f = fields.size() - 1; f >= 0; f--) {
            if (fields.get(f).farmer == farmer && spare(f) && (to < 0 || fields.get(f).sugar >= fields.get(to).sugar)) {
                to = f;
            }
        }
        send(home, to);
        return to;
    }

    private boolean spare(int field) {
        long left = fields.get(field).roots;
        for (L l : lorries) {
            if (l.does == 1 && l.field == field) {
                left -= l.load;
            }
        }
        return left > 0;
    }

    private long owed(int farmer) {
        long owed = 0;
        for (F f : fields) {
            owed += share[farmer] * f.came - (f.farmer == farmer ? 1000 * f.came : 0);
        }
        return owed;
    }

    private int next() {
        int next = -9;
        for (int farmer = 0; farmer < 6; farmer++) {
            boolean has = false;
            for (int f = 0; f < fields.size(); f++) {
                has |= fields.get(f).farmer == farmer && spare(f);
            }
            if (has && (next < 0 || owed(farmer) > owed(next))) {
                next = farmer;
            }
        }
        return next;
    }

    private long works(int what, int v) {
        if (what < 0 || what > 1) {
            return -2;
        }
        if (v < 0) {
            return -4;
        }
        if (v > (what == 0 ? 3000 : 300)) {
            return -6;
        }
        int was = what == 0 ? room : rate;
        room = what == 0 ? v : room;
        rate = what == 1 ? v : rate;
        return was;
    }

    private long cover(int field, boolean on) {
        if (field < 0 || field >= fields.size()) {
            return -1;
        }
        F f = fields.get(field);
        if (f.roots == 0 || f.frozen) {
            return -3;
        }
        long changed = f.covered == on ? 0 : 1;
        f.covered = on;
        return changed;
    }

    private long frost(boolean on) {
        if (on == frost) {
            return -3;
        }
        frost = on;
        long n = 0;
        for (F f : fields) {
            if (on && f.roots > 0 && !f.covered) {
                f.frozen = true;
                f.thawed = -9;
                n++;
            }
            if (!on && f.frozen) {
                f.frozen = false;
                if (f.roots > 0) {
                    f.thawed = hour;
                    n++;
                }
            }
        }
        return n;
    }

    private long hours(int n) {
        if (n < 1) {
            return -4;
        }
        if ((long) hour + n > 2400) {
            return -6;
        }
        long before = eaten;
        for (int i = 0; i < n; i++) {
            hour++;
            gangsLift();
            lorriesCome();
            lorriesUnload();
            worksEats();
            heapsWaste();
        }
        return eaten - before;
    }

    private void gangsLift() {
        for (int[] g : gangs) {
            for (int i = 0; i < g[0] && !frost && g[1] >= 0; i++) {
                F f = fields.get(g[1]);
                if (f.ground > 0) {
                    f.ground--;
                    f.roots++;
                    f.sugar += f.sweet;
                }
            }
        }
    }

    private void lorriesCome() {
        for (L l : lorries) {
            if (l.at != hour) {
                continue;
            }
            F f = fields.get(l.field);
            if (l.does == 2) {
                l.does = 3;
                l.at = -9;
                continue;
            }
            l.roots = Math.min(l.load, f.roots);
            l.sugar = f.roots == 0 ? 0 : f.sugar * l.roots / f.roots;
            f.roots -= l.roots;
            f.sugar -= l.sugar;
            if (f.roots == 0) {
                f.thawed = -9;
            }
            l.does = 2;
            l.at = hour + f.way + (f.stony ? 1 : 0);
        }
    }

    private long yardRoots() {
        long sum = 0;
        for (long[] load : yard) {
            sum += load[1];
        }
        return sum;
    }

    private void lorriesUnload() {
        for (L l : lorries) {
            if (l.does != 3) {
                continue;
            }
            if (l.roots > 0 && yardRoots() + l.roots > room) {
                break;
            }
            F f = fields.get(l.field);
            if (l.roots > 0) {
                yard.add(new long[] {l.field, l.roots, l.sugar});
                coins[f.farmer] += l.roots * price[(int) Math.min(9, l.sugar / l.roots / 25)];
                f.came += l.roots;
                l.brought++;
            }
            l.does = 0;
            l.field = -9;
            l.roots = 0;
            l.sugar = 0;
        }
        for (L l : lorries) {
            l.drowned += l.does == 3 ? 1 : 0;
        }
    }

    private void worksEats() {
        int units = rate;
        while (!yard.isEmpty()) {
            long[] first = yard.get(0);
            int cost = fields.get((int) first[0]).stony ? 2 : 1;
            if (units < cost) {
                break;
            }
            units -= cost;
            eaten++;
            first[1]--;
            if (first[1] == 0) {
                won += first[2];
                yard.remove(0);
            }
        }
        if (yard.isEmpty() && units > 0) {
            lack += units;
            stood++;
        }
    }

    private void heapsWaste() {
        for (F f : fields) {
            if (hour % 24 == 0) {
                long lost = lost(f, f.sugar, hour / 24 - 1);
                f.sugar -= lost;
                f.wasted += lost;
            }
            if (f.thawed != -9 && hour - f.thawed >= 72) {
                f.spoiled += f.roots;
                f.roots = 0;
                f.sugar = 0;
                f.thawed = -9;
                f.covered = false;
            }
        }
    }

    private long lost(F f, long sugar, int day) {
        int number = table[warmth[day]];
        if (f.frozen) {
            return 0;
        }
        if (f.thawed != -9) {
            return sugar * Math.min(1000, 3 * number) / 1000;
        }
        return sugar * (f.covered ? number / 2 : number) / 1000;
    }

    private boolean best() {
        List<Integer> heaps = new ArrayList<>();
        for (int f = 0; f < fields.size(); f++) {
            if (fields.get(f).roots > 0) {
                heaps.add(f);
            }
        }
        if (heaps.size() > 8 || rate == 0) {
            return false;
        }
        bestWaste = Long.MAX_VALUE;
        tryOrders(heaps, new ArrayList<>(), hour, 0);
        return true;
    }

    private void tryOrders(List<Integer> heaps, List<Integer> order, int begins, long waste) {
        if (order.size() == heaps.size()) {
            if (waste < bestWaste) {
                bestWaste = waste;
                bestOrder = new ArrayList<>(order);
            }
            return;
        }
        for (int f : heaps) {
            if (order.contains(f)) {
                continue;
            }
            F heap = fields.get(f);
            long sugar = heap.sugar;
            for (int h = (hour / 24 + 1) * 24; h <= begins && h <= 2400; h += 24) {
                sugar -= lost(heap, sugar, h / 24 - 1);
            }
            long units = heap.roots * (heap.stony ? 2 : 1);
            long lasts = units % rate == 0 ? units / rate : units / rate + 1;
            order.add(f);
            tryOrders(heaps, order, (int) (begins + lasts), waste + heap.sugar - sugar);
            order.remove(order.size() - 1);
        }
    }

    private long fieldOf(int field, int what) {
        if (field < 0 || field >= fields.size()) {
            return -1;
        }
        F f = fields.get(field);
        long out = 0;
        for (L l : lorries) {
            out += l.does == 1 && l.field == field ? 1 : 0;
        }
        long[] all = {f.ground, f.roots, f.sugar, f.covered ? 1 : 0, f.frozen ? 1 : 0, f.thawed, f.wasted, f.spoiled, f.came, f.farmer, out};
        return what < 0 || what >= all.length ? -2 : all[what];
    }

    private long lorryOf(int lorry, int what) {
        if (lorry < 0 || lorry >= lorries.size()) {
            return -1;
        }
        L l = lorries.get(lorry);
        long[] all = {l.does, l.field, l.at, l.roots, l.sugar, l.drowned, l.brought};
        return what < 0 || what >= all.length ? -2 : all[what];
    }

    private long count(int what) {
        long waste = 0;
        long spoiled = 0;
        for (F f : fields) {
            waste += f.wasted;
            spoiled += f.spoiled;
        }
        long[] all = {hour, fields.size(), lorries.size(), yardRoots(), eaten, won, stood, lack, waste, spoiled, -9,
            refusals[1], refusals[2], refusals[3], refusals[4], refusals[5], refusals[6], frost ? 1 : 0};
        return what < 0 || what >= all.length ? -9 : all[what];
    }
}
