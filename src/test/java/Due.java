import java.util.function.Consumer;
import java.util.function.ToIntFunction;

/** What the tests share: it prints each answer that is not the one that is due, and ends with exit code 1 if there was one. */
final class Due {
    private static int looked = 0;
    private static int wrong = 0;
    private static int sentences = 0;
    private static String sentence = "";

    private Due() {
    }

    /** The sentence of the document that the answers behind it are about. */
    static void says(String told) {
        sentences++;
        sentence = "\"" + told + "\": ";
    }

    static void is(String call, long got, long want) {
        looked++;
        if (got != want) {
            wrong++;
            System.out.println(sentence + call + " answered " + got + ", due is " + want);
        }
    }

    static void holds(String what, boolean so) {
        is(what, so ? 1 : 0, 1);
    }

    static void end() {
        String told = sentences == 0 ? "" : ", for " + sentences + " sentences";
        System.out.println((wrong == 0 ? looked + " answers are as due" : wrong + " of " + looked + " answers are not as due") + told);
        if (wrong != 0) {
            System.exit(1);
        }
    }

    /** fieldOf of a FIELD, from what 0 on. */
    static void field(String when, BeetHouse x, int field, int... due) {
        for (int what = 0; what < due.length; what++) {
            is("fieldOf(" + field + ", " + what + ") " + when, x.fieldOf(field, what), due[what]);
        }
    }

    /** lorryOf of a LORRY, from what 0 on. */
    static void lorry(String when, BeetHouse x, int lorry, int... due) {
        for (int what = 0; what < due.length; what++) {
            is("lorryOf(" + lorry + ", " + what + ") " + when, x.lorryOf(lorry, what), due[what]);
        }
    }

    /** All LOADS of THE YARD, three numbers each, and none behind them. */
    static void yard(String when, BeetHouse x, int... due) {
        for (int i = 0; i < due.length; i++) {
            is("load(" + i / 3 + ", " + i % 3 + ") " + when, x.load(i / 3, i % 3), due[i]);
        }
        is("load(" + due.length / 3 + ", 0) " + when, x.load(due.length / 3, 0), -9);
    }

    /** How often each refusal was, from -1 to -6. */
    static void refusals(String when, BeetHouse x, int... due) {
        for (int what = 11; what <= 16; what++) {
            is("count(" + what + ") " + when, x.count(what), what - 11 < due.length ? due[what - 11] : 0);
        }
    }

    /**
     * A call that is refused in the state that the set-up makes: it answers its number, changes nothing but how many there
     * were, and what comes behind it goes as if it had not been. New objects each time: an object is good for 512 calls.
     */
    static void refused(String name, Consumer<BeetHouse> setUp, ToIntFunction<BeetHouse> call, int number) {
        BeetHouse asked = made(setUp);
        BeetHouse twin = made(setUp);
        is(name, call.applyAsInt(asked), number);
        counted(name, asked, twin, number, 1);
        is(name + " again", call.applyAsInt(asked), number);
        counted(name + " again", asked, twin, number, 2);
        alike(name, asked, twin);

        asked = made(setUp);
        twin = made(setUp);
        call.applyAsInt(asked);
        alikeNumbers(name, asked, twin);

        later(name, setUp, call, false);
        later(name + ", then another weather", setUp, call, true);
    }

    private static BeetHouse made(Consumer<BeetHouse> setUp) {
        BeetHouse x = new BeetHouse();
        setUp.accept(x);
        return x;
    }

    private static void counted(String name, BeetHouse asked, BeetHouse twin, int number, int times) {
        for (int what = 11; what <= 16; what++) {
            int more = what == 10 - number ? times : 0;
            same(name, "count", what, -1, asked.count(what), twin.count(what) + more);
        }
    }

    private static void later(String name, Consumer<BeetHouse> setUp, ToIntFunction<BeetHouse> call, boolean turned) {
        BeetHouse asked = made(setUp);
        BeetHouse twin = made(setUp);
        call.applyAsInt(asked);
        if (turned) {
            boolean on = twin.count(17) == 0;
            is(name + ", then frost(" + on + ")", asked.frost(on), twin.frost(on));
        }
        int left = 2400 - twin.count(0);
        int n = Math.min(left, turned ? 80 : 30);
        if (n > 0) {
            same(name, "hours", n, -1, asked.hours(n), twin.hours(n));
            alike(name + ", then hours(" + n + ")", asked, twin);
        }
    }

    private static void same(String name, String call, int a, int b, int got, int want) {
        looked++;
        if (got != want) {
            wrong++;
            System.out.println(sentence + name + ", then " + call + "(" + a + ", " + b + ") answered " + got + ", due is " + want);
        }
    }

    /** Every answer that both objects can give is the same. */
    private static void alike(String name, BeetHouse a, BeetHouse b) {
        for (int what = -1; what <= 18; what++) {
            if (what < 11 || what > 16) {
                same(name, "count", what, -1, a.count(what), b.count(what));
            }
        }
        int fields = b.count(1);
        int lorries = b.count(2);
        for (int f = 0; f < fields; f++) {
            for (int what = 0; what <= 10; what++) {
                same(name, "fieldOf", f, what, a.fieldOf(f, what), b.fieldOf(f, what));
            }
        }
        for (int l = 0; l < lorries; l++) {
            for (int what = 0; what <= 6; what++) {
                same(name, "lorryOf", l, what, a.lorryOf(l, what), b.lorryOf(l, what));
            }
        }
        for (int i = 0; i < 5; i++) {
            for (int what = 0; what <= 2; what++) {
                same(name, "load", i, what, a.load(i, what), b.load(i, what));
            }
        }
        for (int f = 0; f < 6; f++) {
            same(name, "coins", f, -1, a.coins(f), b.coins(f));
            same(name, "owed", f, -1, a.owed(f), b.owed(f));
        }
        same(name, "next", -1, -1, a.next(), b.next());
        same(name, "best", -1, -1, a.best(), b.best());
        for (int i = 0; i < 9; i++) {
            same(name, "order", i, -1, a.order(i), b.order(i));
        }
    }

    /** The numbers that only a new one makes known; the old one is put back. */
    private static void alikeNumbers(String name, BeetHouse a, BeetHouse b) {
        for (int f = 0; f < 6; f++) {
            int was = a.share(f, 0);
            same(name, "share", f, was, was, b.share(f, was));
        }
        for (int i = 0; i < 10; i++) {
            int number = a.table(i, 0);
            same(name, "table", i, number, number, b.table(i, number));
            int price = a.price(i, 0);
            same(name, "price", i, price, price, b.price(i, price));
        }
        for (int what = 0; what <= 1; what++) {
            int was = a.works(what, 0);
            same(name, "works", what, was, was, b.works(what, was));
        }
        for (int day = 0; day < 100; day++) {
            int was = a.warmth(day, 0);
            same(name, "warmth", day, was, was, b.warmth(day, was));
        }
    }
}
