import java.util.function.Consumer;
import java.util.function.ToIntFunction;

/** What the tests share: it prints each answer that is not the one that is due, and ends with exit code 1 if there was one. */
final class Due {
    private static int looked = 0;
    private static int wrong = 0;

    private Due() {
    }

    static void is(String call, long got, long want) {
        looked++;
        if (got != want) {
            wrong++;
            System.out.println(call + " answered " + got + ", due is " + want);
        }
    }

    static void holds(String what, boolean so) {
        is(what, so ? 1 : 0, 1);
    }

    static void end() {
        System.out.println(wrong == 0 ? looked + " answers are as due" : wrong + " of " + looked + " answers are not as due");
        if (wrong != 0) {
            System.exit(1);
        }
    }

    /** A call that is refused in the state that the set-up makes: it answers its number and changes nothing but their count. */
    static void refused(String name, Consumer<BeetHouse> setUp, ToIntFunction<BeetHouse> call, int number) {
        BeetHouse asked = new BeetHouse();
        BeetHouse twin = new BeetHouse();
        setUp.accept(asked);
        setUp.accept(twin);
        is(name, call.applyAsInt(asked), number);
        for (int what = 11; what <= 16; what++) {
            int more = what == 10 - number ? 1 : 0;
            is(name + ", then count(" + what + ")", asked.count(what), twin.count(what) + more);
        }
        alike(name, asked, twin);
        int left = 2400 - twin.count(0);
        if (left > 0) {
            int n = Math.min(left, 30);
            is(name + ", then hours(" + n + ")", asked.hours(n), twin.hours(n));
            alike(name + ", then hours(" + n + ")", asked, twin);
        }
    }

    /** Every answer that both objects can give without a refusal is the same. */
    private static void alike(String name, BeetHouse a, BeetHouse b) {
        for (int what = -1; what <= 18; what++) {
            if (what < 11 || what > 16) {
                is(name + ", then count(" + what + ")", a.count(what), b.count(what));
            }
        }
        for (int f = 0; f < b.count(1); f++) {
            for (int what = 0; what <= 10; what++) {
                is(name + ", then fieldOf(" + f + ", " + what + ")", a.fieldOf(f, what), b.fieldOf(f, what));
            }
        }
        for (int l = 0; l < b.count(2); l++) {
            for (int what = 0; what <= 6; what++) {
                is(name + ", then lorryOf(" + l + ", " + what + ")", a.lorryOf(l, what), b.lorryOf(l, what));
            }
        }
        for (int i = 0; i < 4; i++) {
            for (int what = 0; what <= 2; what++) {
                is(name + ", then load(" + i + ", " + what + ")", a.load(i, what), b.load(i, what));
            }
        }
        for (int f = 0; f < 6; f++) {
            is(name + ", then coins(" + f + ")", a.coins(f), b.coins(f));
            is(name + ", then owed(" + f + ")", a.owed(f), b.owed(f));
        }
        is(name + ", then next()", a.next(), b.next());
        alikeNumbers(name, a, b);
    }

    /** The numbers that only a new one makes known; the old one is put back. */
    private static void alikeNumbers(String name, BeetHouse a, BeetHouse b) {
        for (int f = 0; f < 6; f++) {
            int was = a.share(f, 0);
            a.share(f, was);
            is(name + ", then SHARE " + f, was, b.share(f, was));
        }
        for (int i = 0; i < 10; i++) {
            int number = a.table(i, 0);
            a.table(i, number);
            is(name + ", then table at " + i, number, b.table(i, number));
            int price = a.price(i, 0);
            a.price(i, price);
            is(name + ", then PRICE " + i, price, b.price(i, price));
        }
        for (int what = 0; what <= 1; what++) {
            int was = a.works(what, 0);
            a.works(what, was);
            is(name + ", then works " + what, was, b.works(what, was));
        }
        for (int day = 0; day < 100; day += 33) {
            int was = a.warmth(day, 0);
            a.warmth(day, was);
            is(name + ", then WARMTH " + day, was, b.warmth(day, was));
        }
    }
}
