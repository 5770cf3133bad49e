import java.util.ArrayList;

/** A beet campaign: heaps, lorries, a works and what the farmers are owed. DOC.md says what each call answers. */
public final class BeetHouse {
    private static final int NOBODY = -1;
    private static final int OTHER = -2;
    private static final int STATE = -3;
    private static final int BELOW = -4;
    private static final int ROOM = -6;
    private static final int NONE = -9;

    private static final int FARMERS = 6;
    private static final int MOST_PLOTS = 16;
    private static final int MOST_LORRIES = 8;
    private static final int GANGS = 4;
    private static final int DAYS = 100;
    private static final int DAY_HOURS = 24;
    private static final int LAST_HOUR = 2400;
    private static final int WARMTHS = 10;
    private static final int STEPS = 10;
    private static final int SPOIL_HOURS = 72;
    private static final int MOST_ORDERED = 8;
    private static final int OWED_BASE = 1000000000;

    private static final int HOME = 0;
    private static final int OUT = 1;
    private static final int BACK = 2;
    private static final int WAITING = 3;

    private final Farmer[] farmers = new Farmer[FARMERS];
    private final ArrayList<Plot> plots = new ArrayList<>();
    private final Gang[] gangs = new Gang[GANGS];
    private final ArrayList<Lorry> lorries = new ArrayList<>();
    private final Weather weather = new Weather();
    private final Yard yard = new Yard();
    private final Mill mill = new Mill();
    private final Orders orders = new Orders();
    private final int[] prices = new int[STEPS];
    private final int[] refusals = new int[1 - ROOM];
    private boolean freezing = false;
    private int hour = 0;

    public BeetHouse() {
        for (int i = 0; i < FARMERS; i++) {
            farmers[i] = new Farmer(i);
        }
        for (int i = 0; i < GANGS; i++) {
            gangs[i] = new Gang();
        }
    }

    public int share(int farmer, int s) {
        Farmer f = farmerAt(farmer);
        if (f == null) {
            return refuse(NOBODY);
        }
        int refusal = outside(s, 0, 1000);
        if (refusal != 0) {
            return refuse(refusal);
        }
        int was = f.share;
        f.share = s;
        return was;
    }

    public int field(int farmer, int roots, int sweet, int way, boolean stony) {
        Farmer f = farmerAt(farmer);
        if (f == null) {
            return refuse(NOBODY);
        }
        if (roots < 1 || sweet < 50 || way < 1) {
            return refuse(BELOW);
        }
        if (roots > 5000 || sweet > 250 || way > 12 || plots.size() >= MOST_PLOTS) {
            return refuse(ROOM);
        }
        int number = plots.size();
        plots.add(new Plot(number, f, roots, sweet, way, stony));
        return number;
    }

    public int gang(int g, int rate, int field) {
        Plot p = plotAt(field);
        if (g < 0 || g >= GANGS || (p == null && field != -1)) {
            return refuse(NOBODY);
        }
        int refusal = outside(rate, 0, 100);
        if (refusal != 0) {
            return refuse(refusal);
        }
        gangs[g].rate = rate;
        gangs[g].plot = p;
        return 1;
    }

    public int lorry(int load) {
        if (load < 1) {
            return refuse(BELOW);
        }
        if (load > 100 || lorries.size() >= MOST_LORRIES) {
            return refuse(ROOM);
        }
        lorries.add(new Lorry(load));
        return lorries.size() - 1;
    }

    public int send(int lorry, int field) {
        Lorry l = lorryAt(lorry);
        Plot p = plotAt(field);
        if (l == null || p == null) {
            return refuse(NOBODY);
        }
        if (l.state != HOME) {
            return refuse(STATE);
        }
        l.setOut(p, hour);
        return l.there;
    }

    public int turn() {
        Lorry l = firstHome();
        if (l == null) {
            return refuse(STATE);
        }
        Plot p = sweetestOf(mostOwed());
        if (p == null) {
            return NONE;
        }
        l.setOut(p, hour);
        return p.number;
    }

    public int works(int what, int v) {
        if (what != 0 && what != 1) {
            return refuse(OTHER);
        }
        int refusal = outside(v, 0, what == 0 ? 3000 : 300);
        if (refusal != 0) {
            return refuse(refusal);
        }
        int was;
        if (what == 0) {
            was = yard.room;
            yard.room = v;
        } else {
            was = mill.rate;
            mill.rate = v;
        }
        return was;
    }

    public int table(int warmth, int v) {
        return put(weather.numbers, warmth, OTHER, v, 100);
    }

    public int warmth(int day, int v) {
        return put(weather.warmths, day, NOBODY, v, WARMTHS - 1);
    }

    public int price(int step, int v) {
        return put(prices, step, OTHER, v, 1000);
    }

    public int cover(int field, boolean on) {
        Plot p = plotAt(field);
        if (p == null) {
            return refuse(NOBODY);
        }
        if (p.roots == 0 || p.frozen) {
            return refuse(STATE);
        }
        if (p.covered == on) {
            return 0;
        }
        p.covered = on;
        return 1;
    }

    public int frost(boolean on) {
        if (freezing == on) {
            return refuse(STATE);
        }
        freezing = on;
        int changed = 0;
        for (int i = 0; i < plots.size(); i++) {
            Plot p = plots.get(i);
            if (on ? p.freeze() : p.thaw(hour)) {
                changed++;
            }
        }
        return changed;
    }

    public int hours(int n) {
        if (n < 1) {
            return refuse(BELOW);
        }
        if (n > LAST_HOUR - hour) {
            return refuse(ROOM);
        }
        int before = mill.eaten;
        for (int i = 0; i < n; i++) {
            passHour();
        }
        return mill.eaten - before;
    }

    public int owed(int farmer) {
        Farmer f = farmerAt(farmer);
        return f == null ? refuse(NOBODY) : OWED_BASE + f.claim(yard.came);
    }

    public int next() {
        Farmer f = mostOwed();
        return f == null ? NONE : f.number;
    }

    public int best() {
        if (!findOrder()) {
            return refuse(STATE);
        }
        return orders.leastWaste();
    }

    public int order(int i) {
        if (!findOrder()) {
            return refuse(STATE);
        }
        return orders.plotAtPlace(i);
    }

    public int fieldOf(int field, int what) {
        Plot p = plotAt(field);
        if (p == null) {
            return refuse(NOBODY);
        }
        switch (what) {
            case 0: return p.ground;
            case 1: return p.roots;
            case 2: return p.sugar;
            case 3: return p.covered ? 1 : 0;
            case 4: return p.frozen ? 1 : 0;
            case 5: return p.thawedSince;
            case 6: return p.wasted;
            case 7: return p.spoiled;
            case 8: return p.came;
            case 9: return p.farmer.number;
            case 10: return lorriesOutTo(p);
            default: return refuse(OTHER);
        }
    }

    public int lorryOf(int lorry, int what) {
        Lorry l = lorryAt(lorry);
        if (l == null) {
            return refuse(NOBODY);
        }
        switch (what) {
            case 0: return l.state;
            case 1: return l.plot == null ? NONE : l.plot.number;
            case 2: return l.there;
            case 3: return l.roots;
            case 4: return l.sugar;
            case 5: return l.drowned;
            case 6: return l.brought;
            default: return refuse(OTHER);
        }
    }

    public int load(int i, int what) {
        if (i < 0 || i >= yard.loads.size()) {
            return NONE;
        }
        Load l = yard.loads.get(i);
        switch (what) {
            case 0: return l.plot.number;
            case 1: return l.roots;
            case 2: return l.sugar;
            default: return NONE;
        }
    }

    public int coins(int farmer) {
        Farmer f = farmerAt(farmer);
        return f == null ? refuse(NOBODY) : f.coins;
    }

    public int count(int what) {
        if (what >= 11 && what <= 16) {
            return refusals[what - 10];
        }
        switch (what) {
            case 0: return hour;
            case 1: return plots.size();
            case 2: return lorries.size();
            case 3: return yard.roots;
            case 4: return mill.eaten;
            case 5: return mill.sugarWon;
            case 6: return mill.stood;
            case 7: return mill.lack;
            case 8: return wasteOfAll();
            case 9: return spoiledOfAll();
            case 17: return freezing ? 1 : 0;
            default: return NONE;
        }
    }

    private int refuse(int refusal) {
        if (refusal <= NOBODY && refusal >= ROOM) {
            refusals[-refusal]++;
        }
        return refusal;
    }

    /** The refusal that a number outside its bounds earns, or 0. */
    private static int outside(int v, int least, int greatest) {
        if (v < least) {
            return BELOW;
        }
        return v > greatest ? ROOM : 0;
    }

    /** Puts a number from 0 on into a row and answers what stood there; noSuch is the refusal of a wrong place. */
    private int put(int[] row, int place, int noSuch, int v, int greatest) {
        if (place < 0 || place >= row.length) {
            return refuse(noSuch);
        }
        int refusal = outside(v, 0, greatest);
        if (refusal != 0) {
            return refuse(refusal);
        }
        int was = row[place];
        row[place] = v;
        return was;
    }

    private Farmer farmerAt(int number) {
        return number >= 0 && number < FARMERS ? farmers[number] : null;
    }

    private Plot plotAt(int number) {
        return number >= 0 && number < plots.size() ? plots.get(number) : null;
    }

    private Lorry lorryAt(int number) {
        return number >= 0 && number < lorries.size() ? lorries.get(number) : null;
    }

    private Lorry firstHome() {
        for (int i = 0; i < lorries.size(); i++) {
            if (lorries.get(i).state == HOME) {
                return lorries.get(i);
            }
        }
        return null;
    }

    private int lorriesOutTo(Plot p) {
        int out = 0;
        for (int i = 0; i < lorries.size(); i++) {
            if (lorries.get(i).isOutTo(p)) {
                out++;
            }
        }
        return out;
    }

    /** Whether the heap has more roots than the lorries on their way there can take. */
    private boolean hasRootsToSpare(Plot p) {
        int taken = 0;
        for (int i = 0; i < lorries.size(); i++) {
            Lorry l = lorries.get(i);
            if (l.isOutTo(p)) {
                taken += l.capacity;
            }
        }
        return p.roots > taken;
    }

    /** The farmer who is NEXT, or null. */
    private Farmer mostOwed() {
        Farmer found = null;
        for (int i = 0; i < plots.size(); i++) {
            Plot p = plots.get(i);
            if (hasRootsToSpare(p) && (found == null || p.farmer.comesBefore(found, yard.came))) {
                found = p.farmer;
            }
        }
        return found;
    }

    private Plot sweetestOf(Farmer farmer) {
        Plot found = null;
        for (int i = 0; i < plots.size(); i++) {
            Plot p = plots.get(i);
            if (p.farmer == farmer && hasRootsToSpare(p) && (found == null || p.sugar > found.sugar)) {
                found = p;
            }
        }
        return found;
    }

    private int wasteOfAll() {
        int sum = 0;
        for (int i = 0; i < plots.size(); i++) {
            sum += plots.get(i).wasted;
        }
        return sum;
    }

    private int spoiledOfAll() {
        int sum = 0;
        for (int i = 0; i < plots.size(); i++) {
            sum += plots.get(i).spoiled;
        }
        return sum;
    }

    private void passHour() {
        hour++;
        if (!freezing) {
            liftRoots();
        }
        for (int i = 0; i < lorries.size(); i++) {
            lorries.get(i).arrive(hour);
        }
        unloadLorries();
        mill.grind(yard);
        if (hour % DAY_HOURS == 0) {
            wasteHeaps();
        }
        for (int i = 0; i < plots.size(); i++) {
            plots.get(i).spoil(hour);
        }
    }

    private void liftRoots() {
        for (int i = 0; i < GANGS; i++) {
            Plot p = gangs[i].plot;
            if (p != null) {
                p.lift(gangs[i].rate);
            }
        }
    }

    private void unloadLorries() {
        boolean blocked = false;
        for (int i = 0; i < lorries.size(); i++) {
            Lorry l = lorries.get(i);
            if (l.state != WAITING) {
                continue;
            }
            blocked = blocked || !yard.hasRoomFor(l.roots);
            if (blocked) {
                l.drowned++;
            } else {
                unloadOne(l);
            }
        }
    }

    private void unloadOne(Lorry l) {
        if (l.roots > 0 && l.plot != null) {
            Load brought = new Load(l.plot, l.roots, l.sugar);
            yard.take(brought);
            pay(brought);
            l.brought++;
        }
        l.comeHome();
    }

    private void pay(Load brought) {
        if (brought.roots < 1) {
            return;
        }
        int step = Math.min(brought.sugar / brought.roots / 25, STEPS - 1);
        if (step >= 0) {
            brought.plot.farmer.coins += brought.roots * prices[step];
        }
    }

    private void wasteHeaps() {
        int number = weather.numberOf(hour / DAY_HOURS - 1);
        for (int i = 0; i < plots.size(); i++) {
            plots.get(i).waste(number);
        }
    }

    /** Looks for BEST; false if it is refused. */
    private boolean findOrder() {
        orders.clear(hour);
        if (mill.rate == 0) {
            return false;
        }
        for (int i = 0; i < plots.size(); i++) {
            Plot p = plots.get(i);
            if (p.roots > 0 && !orders.add(p, mill.rate, weather)) {
                return false;
            }
        }
        orders.search();
        return true;
    }

    private static final class Farmer {
        private final int number;
        private int share = 0;
        private int coins = 0;
        private int came = 0;

        private Farmer(int number) {
            this.number = number;
        }

        /** OWED, of all the roots that came. */
        private int claim(int allCame) {
            return share * allCame - 1000 * came;
        }

        private boolean comesBefore(Farmer other, int allCame) {
            int mine = claim(allCame);
            int theirs = other.claim(allCame);
            return mine > theirs || (mine == theirs && number < other.number);
        }
    }

    /** A FIELD with its HEAP. */
    private static final class Plot {
        private final int number;
        private final Farmer farmer;
        private final int sweet;
        private final int way;
        private final boolean stony;
        private int ground;
        private int roots = 0;
        private int sugar = 0;
        private boolean covered = false;
        private boolean frozen = false;
        private int thawedSince = NONE;
        private int wasted = 0;
        private int spoiled = 0;
        private int came = 0;

        private Plot(int number, Farmer farmer, int ground, int sweet, int way, boolean stony) {
            this.number = number;
            this.farmer = farmer;
            this.ground = ground;
            this.sweet = sweet;
            this.way = way;
            this.stony = stony;
        }

        private int unitsFor(int someRoots) {
            return stony ? 2 * someRoots : someRoots;
        }

        private int rootsFor(int units) {
            return stony ? units / 2 : units;
        }

        private int wayBack() {
            return stony ? way + 1 : way;
        }

        private void lift(int rate) {
            int lifted = Math.min(rate, ground);
            ground -= lifted;
            roots += lifted;
            sugar += lifted * sweet;
        }

        private int sugarIn(int taken) {
            return roots > 0 ? (int) ((long) sugar * taken / roots) : 0;
        }

        private void lose(int lostRoots, int lostSugar) {
            roots -= lostRoots;
            sugar -= lostSugar;
            if (roots == 0) {
                thawedSince = NONE;
            }
        }

        private boolean freeze() {
            if (roots == 0 || covered) {
                return false;
            }
            frozen = true;
            thawedSince = NONE;
            return true;
        }

        /** An empty heap is never THAWED, so one that was emptied in the frost only stops being FROZEN. */
        private boolean thaw(int now) {
            boolean thaws = frozen && roots > 0;
            frozen = false;
            if (thaws) {
                thawedSince = now;
            }
            return thaws;
        }

        /** What a day takes of so much sugar, the heap being as it is now. */
        private int wasteOf(int someSugar, int number) {
            int perMille = number;
            if (frozen) {
                perMille = 0;
            } else if (thawedSince != NONE) {
                perMille = Math.min(3 * number, 1000);
            } else if (covered) {
                perMille = number / 2;
            }
            return (int) ((long) someSugar * perMille / 1000);
        }

        private void waste(int number) {
            int lost = wasteOf(sugar, number);
            sugar -= lost;
            wasted += lost;
        }

        private void spoil(int now) {
            if (thawedSince == NONE || now - thawedSince < SPOIL_HOURS) {
                return;
            }
            spoiled += roots;
            lose(roots, sugar);
            covered = false;
        }
    }

    private static final class Gang {
        private int rate = 0;
        private Plot plot = null;
    }

    private static final class Lorry {
        private final int capacity;
        private int state = HOME;
        private Plot plot = null;
        private int there = NONE;
        private int roots = 0;
        private int sugar = 0;
        private int drowned = 0;
        private int brought = 0;

        private Lorry(int capacity) {
            this.capacity = capacity;
        }

        private boolean isOutTo(Plot p) {
            return state == OUT && plot == p;
        }

        private void setOut(Plot p, int now) {
            state = OUT;
            plot = p;
            there = now + p.way;
        }

        private void arrive(int now) {
            if (there != now || plot == null) {
                return;
            }
            if (state == OUT) {
                fill(plot);
                state = BACK;
                there = now + plot.wayBack();
            } else if (state == BACK) {
                state = WAITING;
                there = NONE;
            }
        }

        private void fill(Plot p) {
            int taken = Math.min(capacity, p.roots);
            roots = taken;
            sugar = p.sugarIn(taken);
            p.lose(roots, sugar);
        }

        private void comeHome() {
            state = HOME;
            plot = null;
            roots = 0;
            sugar = 0;
        }
    }

    private static final class Load {
        private final Plot plot;
        private int roots;
        private final int sugar;

        private Load(Plot plot, int roots, int sugar) {
            this.plot = plot;
            this.roots = roots;
            this.sugar = sugar;
        }
    }

    private static final class Yard {
        private final ArrayList<Load> loads = new ArrayList<>();
        private int room = 500;
        private int roots = 0;
        private int came = 0;

        private boolean hasRoomFor(int more) {
            return more == 0 || roots + more <= room;
        }

        private void take(Load l) {
            loads.add(l);
            roots += l.roots;
            came += l.roots;
            l.plot.came += l.roots;
            l.plot.farmer.came += l.roots;
        }
    }

    private static final class Mill {
        private int rate = 0;
        private int eaten = 0;
        private int sugarWon = 0;
        private int stood = 0;
        private int lack = 0;

        /** An hour of THE WORKS; each round eats of one load, and no more rounds than UNITS can be needed. */
        private void grind(Yard yard) {
            int units = rate;
            for (int round = 0; round < rate && !yard.loads.isEmpty(); round++) {
                Load first = yard.loads.get(0);
                int bite = Math.min(first.roots, first.plot.rootsFor(units));
                units -= first.plot.unitsFor(bite);
                first.roots -= bite;
                yard.roots -= bite;
                eaten += bite;
                if (first.roots > 0) {
                    break;
                }
                sugarWon += first.sugar;
                yard.loads.remove(0);
            }
            if (yard.roots == 0 && units > 0) {
                lack += units;
                stood++;
            }
        }
    }

    private static final class Weather {
        private final int[] warmths = new int[DAYS];
        private final int[] numbers = new int[WARMTHS];

        private Weather() {
            for (int i = 0; i < DAYS; i++) {
                warmths[i] = 5;
            }
        }

        /** The table's number at the warmth of a day. */
        private int numberOf(int day) {
            if (day < 0 || day >= DAYS) {
                return 0;
            }
            int warm = warmths[day];
            return warm >= 0 && warm < WARMTHS ? numbers[warm] : 0;
        }
    }

    /**
     * The search for BEST. When a heap begins depends only on which heaps went before it, not on their order;
     * so the least waste of the rest is kept for each set of heaps that are eaten (bit i is heap i).
     */
    private static final class Orders {
        private static final int SETS = 1 << MOST_ORDERED;

        private final int[] numbers = new int[MOST_ORDERED];
        private final int[][] wasteByEnds = new int[MOST_ORDERED][DAYS + 1];
        private final int[] begins = new int[SETS];
        private final int[] leastAfter = new int[SETS];
        private final int[] chosenAfter = new int[SETS];
        private int size = 0;
        private int now = 0;

        private void clear(int hour) {
            size = 0;
            now = hour;
            begins[0] = hour;
        }

        /** False if there are too many heaps for a search. */
        private boolean add(Plot p, int rate, Weather weather) {
            if (size >= MOST_ORDERED || rate < 1) {
                return false;
            }
            numbers[size] = p.number;
            foresee(wasteByEnds[size], p, weather);
            int lasts = (p.unitsFor(p.roots) + rate - 1) / rate;
            int bit = 1 << size;
            for (int set = 0; set < bit; set++) {
                begins[set + bit] = begins[set] + lasts;
            }
            size++;
            return true;
        }

        /** What the heap will have wasted behind so many ends of days. */
        private void foresee(int[] waste, Plot p, Weather weather) {
            int today = now / DAY_HOURS;
            int sum = 0;
            waste[0] = 0;
            for (int ends = 1; today + ends <= DAYS && ends < waste.length; ends++) {
                sum += p.wasteOf(p.sugar - sum, weather.numberOf(today + ends - 1));
                waste[ends] = sum;
            }
        }

        private void search() {
            int all = (1 << size) - 1;
            leastAfter[all] = 0;
            for (int eaten = all - 1; eaten >= 0; eaten--) {
                choose(eaten);
            }
        }

        /** What the heap wastes if it begins behind those that are eaten. */
        private int wasteOfWaiting(int heap, int eaten) {
            int ends = Math.min(begins[eaten], LAST_HOUR) / DAY_HOURS - now / DAY_HOURS;
            int[] waste = wasteByEnds[heap];
            return ends >= 0 && ends < waste.length ? waste[ends] : 0;
        }

        /** Of heaps with equal waste the first stays chosen: they stand by their FIELDS' numbers. */
        private void choose(int eaten) {
            int chosen = 0;
            int least = Integer.MAX_VALUE;
            for (int heap = 0; heap < size; heap++) {
                int bit = 1 << heap;
                if ((eaten & bit) != 0) {
                    continue;
                }
                int waste = wasteOfWaiting(heap, eaten) + leastAfter[eaten + bit];
                if (waste < least) {
                    chosen = heap;
                    least = waste;
                }
            }
            chosenAfter[eaten] = chosen;
            leastAfter[eaten] = least;
        }

        private int leastWaste() {
            return leastAfter[0];
        }

        private int plotAtPlace(int place) {
            if (place < 0 || place >= size) {
                return NONE;
            }
            int eaten = 0;
            int heap = chosenAfter[0];
            for (int i = 0; i < place; i++) {
                eaten |= 1 << heap;
                heap = eaten >= 0 && eaten < SETS ? chosenAfter[eaten] : 0;
            }
            return heap >= 0 && heap < size ? numbers[heap] : NONE;
        }
    }
}
