/** Promises 44 to 48: years by a seed, what is kept, counts, the row. */
public final class KeptTest {
    private static final Checks T = new Checks();

    public static void main(String[] args) {
        T.test("44 years", KeptTest::years);
        T.test("44 years: without MARKETS, bounds", KeptTest::yearsBounds);
        T.test("45 keep", KeptTest::keep);
        T.test("46 again", KeptTest::again);
        T.test("47 count", KeptTest::count);
        T.test("48 row", KeptTest::row);
        T.test("48 the row stays with refused calls", KeptTest::rowStays);
        T.finish();
    }

    /** The same years told by deeds of the face. */
    private static final class ByHand {
        private final ShellsByLoad x;
        private long r;

        ByHand(ShellsByLoad x, int seed) {
            this.x = x;
            r = seed & 0xFFFFFFFFL;
        }

        int draw(int n) {
            r = (r * 1103515245L + 12345L) & 0xFFFFFFFFL;
            return (int) (r / 65536 % n);
        }

        void year() {
            int drawn = draw(5);
            if (drawn <= 1) {
                x.months(1);
            } else if (drawn == 4) {
                x.port();
            } else if (x.count(0) > 0) {
                int market = draw(x.count(0));
                if (drawn == 2) {
                    x.taxes(market, 1);
                } else {
                    int n = draw(100);
                    if (n > 0) {
                        x.brings(market, 1, n);
                    }
                }
            }
        }
    }

    private static ShellsByLoad someCoast() {
        return someCoast("10;5;2");
    }

    private static ShellsByLoad someCoast(String markets) {
        ShellsByLoad x = Checks.coast(markets, "o100n50.");
        x.months(9);
        x.brings(x.count(0) / 2, 1, 9000);
        return x;
    }

    private static void years() {
        int[] seeds = {0, 1, 2, 3, 12345, -1, -77, Integer.MIN_VALUE, Integer.MAX_VALUE, 99999999, 4711, 31337};
        for (int seed : seeds) {
            for (int n : new int[] {1, 2, 7, 60}) {
                String markets = new String[] {"10;5;2", "7", "1;2", "9;8;7;6;5;4"}[(n + seed & 3)];
                ShellsByLoad x = someCoast(markets);
                T.changesNothing("years", x, () -> x.years(seed, n));
                int got = x.years(seed, n);
                ShellsByLoad y = someCoast(markets);
                ByHand hand = new ByHand(y, seed);
                for (int i = 0; i < n; i++) {
                    hand.year();
                }
                T.told("years(" + seed + ", " + n + ")", x, got, y.count(4), y.count(6), y.count(7));
            }
        }
    }

    private static void yearsBounds() {
        ShellsByLoad x = someCoast();
        T.refuses("another n", x, -1, () -> x.years(5, 0), () -> x.years(5, 61), () -> x.years(5, -1));
        ShellsByLoad none = Checks.coast("", "o5");
        T.told("no MARKETS", none, none.years(7, 60), 0, 0, 0);
        T.refuses("another n", none, -1, () -> none.years(5, 0));
        ShellsByLoad full = Checks.coast("5", ".");
        for (int i = 0; i < 11; i++) {
            full.brings(0, 1, 9999);
        }
        boolean met = false;
        for (int seed = 0; seed < 40; seed++) {
            ByHand hand = new ByHand(new ShellsByLoad(), seed);
            if (hand.draw(5) == 3) {
                met = true;
                T.told("99999 there at most", full, full.years(seed, 1), 0, 0, 99999);
            }
        }
        T.same("some seed brings shells first", met, true);
    }

    private static void keep() {
        ShellsByLoad x = someCoast();
        T.refuses("others", x, 0, () -> x.keep(-1) ? 1 : 0, () -> x.keep(3) ? 1 : 0,
                () -> x.keep(Integer.MAX_VALUE) ? 1 : 0, () -> x.keep(Integer.MIN_VALUE) ? 1 : 0);
        String before = Checks.shown(x);
        for (int i = 0; i < 3; i++) {
            T.same("keep(" + i + ")", x.keep(i), true);
        }
        T.same("it changes nothing", before.equals(Checks.shown(x)), true);
        x.brings(0, 0, 7);
        x.keep(1);
        x.brings(0, 0, 7);
        x.keep(2);
        int old = x.market(0, 1);
        x.again(0);
        T.same("0", x.market(0, 1), old - 14);
        x.again(1);
        T.same("1", x.market(0, 1), old - 7);
        x.again(2);
        T.same("2", x.market(0, 1), old);
        x.keep(0);
        x.again(1);
        x.again(0);
        T.same("0 anew", x.market(0, 1), old);
    }

    private static void again() {
        ShellsByLoad x = someCoast();
        T.refuses("nothing kept", x, 0, () -> x.again(0) ? 1 : 0, () -> x.again(1) ? 1 : 0, () -> x.again(2) ? 1 : 0,
                () -> x.again(-1) ? 1 : 0, () -> x.again(3) ? 1 : 0);
        x.lays(1, 1, 50);
        x.lays(1, 0, 40);
        x.keep(1);
        String kept = withoutUndone(x);
        T.refuses("others", x, 0, () -> x.again(0) ? 1 : 0, () -> x.again(2) ? 1 : 0);
        x.months(5);
        x.flow(9);
        x.port();
        x.taxes(0, 7);
        x.spends(1, 1, 20);
        x.lays(1, 0, 2);
        x.burns(1);
        T.same("again(1)", x.again(1), true);
        T.same("as they were", kept.equals(withoutUndone(x)), true);
        T.same("nothing to undo", x.count(10), 0);
        x.burns(1);
        T.same("once more", x.again(1), true);
        T.same("as they were", kept.equals(withoutUndone(x)), true);
        Checks.ships(x, "n4");
        x.sheet(2, 3, 9, 1);
        x.left(5, 2);
        x.again(1);
        T.same("SHIPS stay", x.load(0, 1), 40);
        T.same("GOODS stay", x.market(2, 0), 11);
        T.same("what was heard stays", x.count(9), 1);
        T.same("an empty markets()", Checks.markets(x, ""), 0);
        T.same("no MARKETS came", x.again(1), true);
        Checks.markets(x, "x");
        T.same("no MARKETS came", x.again(1), true);
        Checks.markets(x, "5");
        x.port();
        T.refuses("MARKETS came", x, 0, () -> x.again(1) ? 1 : 0);
        x.keep(1);
        x.port();
        T.same("kept again", x.again(1), true);
        T.same("THE PORT", x.count(5), 1);
        ShellsByLoad none = new ShellsByLoad();
        none.keep(0);
        none.months(7);
        T.same("without MARKETS", none.again(0), true);
        T.same("MONTH", none.count(2), 0);
        Checks.markets(none, "5");
        T.same("MARKETS came", none.again(0), false);
    }

    private static String withoutUndone(ShellsByLoad x) {
        return Checks.shownButRow(x).replaceAll("c10=[0-9]+", "");
    }

    private static void count() {
        ShellsByLoad x = Checks.coast("10;5;2", "o100n50.");
        x.months(7);
        x.flow(3);
        x.taxes(0, 2);
        x.port();
        x.lays(1, 0, 30);
        x.lays(1, 1, 20);
        x.lays(0, 1, 5);
        x.left(5, 2);
        x.left(6, 2);
        Checks.say(x, "a text of 17 sign");
        x.strings(80, 1);
        int old = 0;
        int fresh = 0;
        for (int i = 0; i < 3; i++) {
            old += x.market(i, 1);
            fresh += x.market(i, 2);
        }
        int[] due = {3, 3, 7, 3, x.count(4), 1, old, fresh, 55, 2, 7, 2, 17};
        for (int what = 0; what < due.length; what++) {
            T.same("count(" + what + ")", x.count(what), due[what]);
        }
        T.same("all shells", x.count(4) + x.count(6) + x.count(7) + x.count(8), 3 * 1000 + 2 * 500);
        T.refuses("another what", x, -100, () -> x.count(-1), () -> x.count(13), () -> x.count(Integer.MIN_VALUE),
                () -> x.count(Integer.MAX_VALUE));
    }

    private static void row() {
        ShellsByLoad x = Checks.coast("1;1;1;1;1;1", ".", "5");
        T.throwsNone("none yet", () -> x.row(0));
        x.caravan(100);
        T.row("six", x, 0, 0, 0, 0, 0, 0);
        x.sound(10, 10, 3);
        T.row("above an int", x, 282475249L, 10000000000L);
        T.throwsNone("row(2)", () -> x.row(2));
        T.throwsNone("row(-1)", () -> x.row(-1));
        T.throwsNone("row(6)", () -> x.row(6));
        T.throwsNone("row(MAX)", () -> x.row(Integer.MAX_VALUE));
        T.throwsNone("row(MIN)", () -> x.row(Integer.MIN_VALUE));
        T.row("it stays", x, 282475249L, 10000000000L);
    }

    private static void rowStays() {
        ShellsByLoad x = Checks.coast("1;1", ".", "5");
        x.strings(2087, 2);
        long[] due = {52 - 45, 2};
        x.doubles(0);
        x.burns(0);
        x.lays(0, 0, 5);
        x.reign(1, 1, 6);
        x.melts(0, 9, 1);
        x.pays(5);
        x.pays(-5);
        x.sheet(3, 0, 0, 0);
        x.ahead(5, 5);
        Checks.year(x, "x");
        Checks.law(x, "x");
        x.keep(0);
        x.again(0);
        x.port();
        x.flow(4);
        x.undo();
        x.brings(0, 0, 5);
        x.taxes(0, 5);
        x.left(5, 2);
        x.buys(0, 0, 5, 0);
        Checks.ships(x, "o1");
        Checks.markets(x, "7");
        Checks.rule(x, "7");
        x.count(3);
        x.market(0, 5);
        x.load(0, 0);
        T.row("as it was", x, due);
        Checks.law(x, "5");
        T.row("an answer below 0 that is meant", x, 15, 21);
    }
}
