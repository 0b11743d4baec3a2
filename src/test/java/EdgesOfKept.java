/** The boundaries of promises 44 to 48. */
final class EdgesOfKept {
    private static final int MIN = Integer.MIN_VALUE;
    private static final int MAX = Integer.MAX_VALUE;

    private final Edges e;
    private final Checks t;

    private EdgesOfKept(Edges edges) {
        e = edges;
        t = edges.checks;
    }

    static void run(Edges edges) {
        EdgesOfKept all = new EdgesOfKept(edges);
        edges.of("Promise 44: years");
        all.years();
        all.draws();
        edges.of("Promise 45: keep");
        all.keep();
        edges.of("Promise 46: again");
        all.again();
        edges.of("Promise 47: count");
        all.count();
        edges.of("Promise 48: row");
        all.row();
    }

    /** The DRAWS by a seed, in long numbers. */
    private static final class Draws {
        private long r;

        Draws(int seed) {
            r = seed & 0xFFFFFFFFL;
        }

        int next(int n) {
            r = (r * 1103515245L + 12345L) % (1L << 32);
            return (int) (r / 65536 % n);
        }
    }

    /** The least seed from here on whose first DRAW of 5 is this one. */
    private static int seedFor(int from, int drawn) {
        int seed = from;
        while (new Draws(seed).next(5) != drawn) {
            seed++;
        }
        return seed;
    }

    /** What a year does, by the calls that change things. */
    private static void deed(ShellsByLoad x, Draws draws) {
        int drawn = draws.next(5);
        if (drawn < 2) {
            x.months(1);
        } else if (drawn == 4) {
            x.port();
        } else if (x.count(0) > 0) {
            int market = draws.next(x.count(0));
            if (drawn == 2) {
                x.taxes(market, 1);
            } else {
                x.brings(market, 1, draws.next(100));
            }
        }
    }

    private static ShellsByLoad coast() {
        ShellsByLoad x = Checks.coast("1;1;1", "o100n50");
        x.months(6);
        x.brings(2, 0, 5000);
        return x;
    }

    private void alike(int seed, int n) {
        ShellsByLoad x = coast();
        int got = x.years(seed, n);
        ShellsByLoad y = coast();
        Draws draws = new Draws(seed);
        for (int i = 0; i < n; i++) {
            deed(y, draws);
        }
        t.told("years(" + seed + ", " + n + ")", x, got, y.count(4), y.count(6), y.count(7));
    }

    private void years() {
        e.edge("n times (1 .. 60)", () -> {
            for (int seed = 0; seed < 50; seed++) {
                alike(seed, 1);
                alike(seed, 60);
            }
            ShellsByLoad x = coast();
            t.refuses("others", x, -1, () -> x.years(5, 0), () -> x.years(5, 61));
        });
        e.edge("a DRAW of 5 tells: 0, 1: a MONTH", () -> {
            for (int drawn = 0; drawn < 2; drawn++) {
                ShellsByLoad x = Checks.coast("1;1", "o1");
                x.brings(1, 1, 7);
                t.told("a MONTH", x, x.years(seedFor(0, drawn), 1), 0, 10, 7);
                t.same("it is not done", x.count(2), 0);
            }
        });
        e.edge("2: a DRAW of MARKETS tells one that is taxed by 1 tenth", () -> {
            ShellsByLoad x = Checks.coast("1", "o1");
            x.brings(0, 0, 109);
            x.brings(0, 1, 29);
            t.told("taxed, cut", x, x.years(seedFor(0, 2), 1), 10 + 2, 99, 27);
            alike(seedFor(100, 2), 1);
            alike(seedFor(200, 2), 1);
        });
        e.edge("3: a DRAW of MARKETS one, a DRAW of 100 how many NEW shells come to it (99999 there at most)", () -> {
            int seed = seedFor(0, 3);
            Draws draws = new Draws(seed);
            draws.next(5);
            draws.next(1);
            int come = draws.next(100);
            ShellsByLoad x = Checks.coast("1", "o1");
            t.told("they come", x, x.years(seed, 1), 0, 0, come);
            for (int i = 0; i < 11; i++) {
                x.brings(0, 1, 9999);
            }
            t.told("at most", x, x.years(seed, 1), 0, 0, 99999);
            ShellsByLoad two = Checks.coast("1;1");
            two.months(60);
            for (int i = 0; i < 11; i++) {
                two.brings(0, 1, 9999);
                two.brings(1, 1, 9999);
            }
            t.told("at most at each", two, two.years(seed, 1), 0, 0, 199998);
        });
        e.edge("(2, 3: nothing, no DRAWS more, without MARKETS)", () -> {
            ShellsByLoad none = Checks.coast("", "o1");
            for (int drawn = 0; drawn < 5; drawn++) {
                t.told("one", none, none.years(seedFor(0, drawn), 1), 0, 0, 0);
                t.told("60", none, none.years(seedFor(0, drawn), 60), 0, 0, 0);
            }
            t.same("nothing was done", none.count(2), 0);
        });
    }

    private void draws() {
        e.edge("4: THE PORT is closed, or opened", () -> {
            int seed = 0;
            while (!isPortThenMonth(seed)) {
                seed++;
            }
            ShellsByLoad x = Checks.coast("1", "o1");
            t.told("closed, so nothing lands", x, x.years(seed, 2), 0, 0, 0);
            x.port();
            t.told("opened, so it lands", x, x.years(seed, 2), 0, 10, 0);
            t.same("it stays closed", x.count(5), 1);
        });
        e.edge("NONE: another n.", () -> {
            ShellsByLoad x = EdgesOfRow.busy();
            t.refuses("n", x, -1, () -> x.years(5, 0), () -> x.years(5, 61), () -> x.years(5, -1),
                    () -> x.years(5, MIN), () -> x.years(5, MAX));
            ShellsByLoad none = new ShellsByLoad();
            t.refuses("no MARKETS", none, -1, () -> none.years(5, 0), () -> none.years(5, 61));
        });
        e.edge("R = R times 1103515245 + 12345 (as ints; R is seed at first)", () -> {
            for (int seed : new int[] {0, 1, -1, MAX, MIN, 1 << 30, 65535, 65536, -65536}) {
                alike(seed, 1);
                alike(seed, 17);
            }
            ShellsByLoad x = coast();
            int got = x.years(7, 30);
            t.same("each call begins anew", x.years(7, 30), got);
        });
        e.edge("(R without sign, by 65536) % n.", () -> {
            int below = 0;
            for (int seed = 0; seed < 40; seed++) {
                below += seed * 1103515245 + 12345 < 0 ? 1 : 0;
                alike(seed, 2);
            }
            t.same("some R are below 0", below > 5, true);
        });
    }

    private static boolean isPortThenMonth(int seed) {
        Draws draws = new Draws(seed);
        return draws.next(5) == 4 && draws.next(5) < 2;
    }

    private void keep() {
        e.edge("are kept under a number 0 .. 2: true.", () -> {
            ShellsByLoad x = Checks.coast("1");
            for (int i = 0; i <= 2; i++) {
                x.brings(0, 0, 100);
                t.same("keep(" + i + ")", x.keep(i), true);
            }
            for (int i = 2; i >= 0; i--) {
                t.same("again(" + i + ")", x.again(i), true);
                t.same("each its own", x.market(0, 1), 100 * (i + 1));
            }
            t.refuses("others", x, 0, () -> x.keep(-1) ? 1 : 0, () -> x.keep(3) ? 1 : 0);
        });
        e.edge("Refused: others.", () -> {
            ShellsByLoad x = EdgesOfRow.busy();
            t.refuses("others", x, 0, () -> x.keep(-1) ? 1 : 0, () -> x.keep(3) ? 1 : 0, () -> x.keep(MIN) ? 1 : 0,
                    () -> x.keep(MAX) ? 1 : 0);
        });
    }

    private void again() {
        e.edge("They are as they were kept under a number.", () -> {
            ShellsByLoad x = EdgesOfRow.busy();
            x.keep(2);
            String kept = withoutUndone(x);
            x.flow(9);
            x.port();
            x.spends(0, 1, 20);
            x.taxes(1, 9);
            x.months(5);
            x.burns(1);
            t.same("changed", kept.equals(withoutUndone(x)), false);
            t.same("again(2)", x.again(2), true);
            t.same("as they were", kept.equals(withoutUndone(x)), true);
            ShellsByLoad none = new ShellsByLoad();
            none.keep(0);
            none.months(5);
            t.same("without MARKETS", none.again(0), true);
            t.same("MONTH", none.count(2), 0);
        });
        e.edge("Refused: nothing kept,", () -> {
            ShellsByLoad x = Checks.coast("1");
            t.refuses("nothing kept", x, 0, () -> x.again(0) ? 1 : 0, () -> x.again(1) ? 1 : 0, () -> x.again(2) ? 1 : 0);
            x.keep(1);
            x.port();
            t.refuses("nothing kept there", x, 0, () -> x.again(0) ? 1 : 0, () -> x.again(2) ? 1 : 0);
            t.refuses("no such number", x, 0, () -> x.again(-1) ? 1 : 0, () -> x.again(3) ? 1 : 0,
                    () -> x.again(MIN) ? 1 : 0, () -> x.again(MAX) ? 1 : 0);
            ShellsByLoad none = new ShellsByLoad();
            t.refuses("nothing kept", none, 0, () -> none.again(0) ? 1 : 0, () -> none.again(1) ? 1 : 0,
                    () -> none.again(2) ? 1 : 0);
        });
        e.edge("MARKETS came since.", () -> {
            ShellsByLoad x = Checks.coast("1");
            x.keep(1);
            Checks.markets(x, "");
            Checks.markets(x, "1;");
            t.same("none came", x.again(1), true);
            x.keep(0);
            Checks.markets(x, "1");
            x.keep(2);
            x.port();
            t.refuses("MARKETS came", x, 0, () -> x.again(0) ? 1 : 0, () -> x.again(1) ? 1 : 0);
            t.same("kept behind them", x.again(2), true);
            ShellsByLoad none = new ShellsByLoad();
            none.keep(0);
            Checks.markets(none, "1");
            t.refuses("the first came", none, 0, () -> none.again(0) ? 1 : 0);
        });
    }

    private static String withoutUndone(ShellsByLoad x) {
        return Checks.shownButRow(x).replaceAll("c10=[0-9]+", "");
    }

    private void count() {
        e.edge("-100 for another what.", () -> {
            ShellsByLoad x = EdgesOfRow.busy();
            t.refuses("others", x, -100, () -> x.count(-1), () -> x.count(13), () -> x.count(MIN), () -> x.count(MAX));
        });
        e.edge("What 0: MARKETS, 1: LOADS, 2: MONTH, 3: FLOW, 4: TREASURY, 5: 1 if THE PORT is closed, 6: OLD of all, "
                + "7: NEW of all, 8: what is LAID BY in all, 9: what was heard, 10: what can be undone", () -> {
            ShellsByLoad x = EdgesOfRow.busy();
            int[] due = {3, 3, 7, 3, x.count(4), 1, 0, 0, 150, 2, 7, 2, 6};
            for (int i = 0; i < 3; i++) {
                due[6] += x.market(i, 1);
                due[7] += x.market(i, 2);
            }
            for (int what = 0; what <= 12; what++) {
                t.same("count(" + what + ")", x.count(what), due[what]);
            }
            t.same("all that landed or came", due[4] + due[6] + due[7] + due[8], 3 * 1000 + 2 * 500 + 77);
        });
        e.edge("11: numbers of the ROW, 12: signs of THE TEXT.", () -> {
            ShellsByLoad x = Checks.coast("1;1;1;1;1;1");
            t.same("no ROW yet", x.count(11), 0);
            x.caravan(5);
            t.same("the most", x.count(11), 6);
            x.trade(5);
            t.same("two", x.count(11), 2);
            t.same("no TEXT", x.count(12), 0);
            for (int i = 0; i < 21; i++) {
                x.sign(7);
            }
            t.same("the most", x.count(12), 80);
        });
    }

    private void row() {
        e.edge("Number i of the ROW.", () -> {
            ShellsByLoad x = new ShellsByLoad();
            x.sound(10, 10, 1);
            t.same("above an int", x.row(0), 3486784401L);
            t.same("above an int", x.row(1), 10000000000L);
            Checks.markets(x, "1;1;1;1;1;1");
            Checks.rule(x, "1+d");
            x.caravan(5);
            t.same("the first", x.row(0), 2);
            t.same("the last", x.row(5), 1);
        });
        e.edge("NoSuchElementException: none such.", () -> {
            ShellsByLoad x = Checks.coast("1;1;1;1;1;1", ".", "1+d");
            t.throwsNone("no ROW yet", () -> x.row(0));
            x.caravan(5);
            int[] others = {6, 7, -1, MIN, MAX};
            for (int i : others) {
                t.refuses("row(" + i + ")", x, Checks.THROWS, () -> Checks.caught(() -> x.row(i)));
            }
            x.trade(5);
            t.throwsNone("one of those that were", () -> x.row(2));
            x.left(2, 0);
            x.left(2, 1);
            x.fits();
            t.throwsNone("none of none", () -> x.row(0));
        });
    }
}
