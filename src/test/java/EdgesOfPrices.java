/** The boundaries of promises 20 to 31. */
final class EdgesOfPrices {
    private static final int MIN = Integer.MIN_VALUE;
    private static final int MAX = Integer.MAX_VALUE;

    private final Edges e;
    private final Checks t;

    private EdgesOfPrices(Edges edges) {
        e = edges;
        t = edges.checks;
    }

    static void run(Edges edges) {
        EdgesOfPrices all = new EdgesOfPrices(edges);
        edges.of("Promise 20: ahead");
        all.ahead();
        edges.of("Promise 21: doubles");
        all.doubles();
        edges.of("Promise 22: trade");
        all.trade();
        edges.of("Promise 23: buys");
        all.buys();
        all.buysRefused();
        edges.of("Promise 24: best");
        all.best();
        edges.of("Promise 25: closes");
        all.closes();
        edges.of("Promise 26: grows");
        all.grows();
        edges.of("Promise 27: reign");
        all.reign();
        all.reignRefused();
        edges.of("Promise 28: melts");
        all.melts();
        edges.of("Promise 29: when");
        all.when();
        edges.of("Promise 30: rises");
        all.rises();
        edges.of("Promise 31: caravan");
        all.caravan();
        all.caravanRefused();
    }

    private void ahead() {
        e.edge("in n MONTHS (0 .. 99): it; the ROW: OLD, NEW there then.", () -> {
            ShellsByLoad x = Checks.coast("1;1", "o1n2", "m");
            t.told("now", x, x.ahead(0, 0), 0, 0, 0);
            t.told("in one", x, x.ahead(0, 1), 1, 8, 0);
            t.told("in one, inland", x, x.ahead(1, 1), 1, 2, 0);
            t.told("in two, inland", x, x.ahead(1, 2), 2, 2 + 1, 4);
            x.flow(0);
            t.told("in 99", x, x.ahead(0, 99), 99 % 12, 50 * 10, 49 * 20);
            t.refuses("others", x, -1, () -> x.ahead(0, 100), () -> x.ahead(0, -1));
        });
        e.edge("NONE: others.", () -> {
            ShellsByLoad x = EdgesOfRow.busy();
            t.refuses("MARKETS", x, -1, () -> x.ahead(3, 5), () -> x.ahead(-1, 5), () -> x.ahead(6, 5),
                    () -> x.ahead(MIN, 5), () -> x.ahead(MAX, 5));
            t.refuses("n", x, -1, () -> x.ahead(0, 100), () -> x.ahead(0, -1), () -> x.ahead(0, MIN),
                    () -> x.ahead(0, MAX));
            ShellsByLoad none = new ShellsByLoad();
            t.refuses("no MARKETS", none, -1, () -> none.ahead(0, 0));
        });
    }

    private void doubles() {
        e.edge("In how many MONTHS (1 .. 99) PRICE of a MARKET", () -> {
            ShellsByLoad x = Checks.coast("1", "o1", "o");
            t.told("one", x, x.doubles(0), 1, 10);
            x.brings(0, 0, 990);
            t.told("99", x, x.doubles(0), 99, 1980);
            x.brings(0, 0, 1);
            t.refuses("100", x, -2, () -> x.doubles(0));
        });
        e.edge("is first twice as much as now, or more", () -> {
            ShellsByLoad x = Checks.coast("1", ".", "6+(m=3)*5+(m>4)*6");
            t.told("twice", x, x.doubles(0), 5, 12);
            Checks.rule(x, "6+(m=3)*5+(m>4)*7");
            t.told("more", x, x.doubles(0), 5, 13);
            Checks.rule(x, "6+(m=3)*6+(m>4)*90");
            t.told("first", x, x.doubles(0), 3, 12);
        });
        e.edge("(of 0 now: above 0)", () -> {
            ShellsByLoad x = Checks.coast("1", ".", "m/4");
            t.told("1", x, x.doubles(0), 4, 1);
            Checks.rule(x, "(m=7)*50");
            t.told("50", x, x.doubles(0), 7, 50);
        });
        e.edge("-2: in none", () -> {
            ShellsByLoad x = Checks.coast("1", ".", "0");
            t.refuses("0 stays", x, -2, () -> x.doubles(0));
            Checks.rule(x, "12+m");
            t.refuses("one too few", x, -2, () -> x.doubles(0));
            Checks.rule(x, "999*999");
            t.refuses("99999 stays", x, -2, () -> x.doubles(0));
        });
        e.edge("NONE: none such.", () -> {
            ShellsByLoad x = EdgesOfRow.busy();
            t.refuses("MARKETS", x, -1, () -> x.doubles(3), () -> x.doubles(-1), () -> x.doubles(6),
                    () -> x.doubles(MIN), () -> x.doubles(MAX));
            ShellsByLoad none = new ShellsByLoad();
            t.refuses("no MARKETS", none, -1, () -> none.doubles(0));
        });
    }

    private void trade() {
        e.edge("A trader with v (1 .. 9999) shells", () -> {
            ShellsByLoad x = Checks.coast("1;1", ".", "1+(d=1)*2");
            t.told("1", x, x.trade(1), 3, 0, 1);
            t.told("9999", x, x.trade(9999), 29997, 0, 1);
            t.refuses("others", x, -1, () -> x.trade(0), () -> x.trade(10000));
            Checks.rule(x, "1+(d=1)*999*999");
            t.told("the dearest", x, x.trade(9999), 999890001, 0, 1);
        });
        e.edge("(as many as PRICE allows,", () -> {
            ShellsByLoad x = Checks.coast("1;1", ".", "(d=0)*10+(d=1)*20");
            t.told("9 buy none", x, x.trade(9), 9, 0, 1);
            t.told("10 buy one", x, x.trade(10), 20, 0, 1);
            t.told("19 buy one", x, x.trade(19), 29, 0, 1);
            t.told("20 buy two", x, x.trade(20), 40, 0, 1);
        });
        e.edge("0 at PRICE 0)", () -> {
            ShellsByLoad x = Checks.coast("1;1", ".", "(d=1)*20");
            t.told("none at PRICE 0", x, x.trade(19), 19, 0, 1);
            t.told("it is bought where it has a PRICE, or not at all", x, x.trade(50), 50, 0, 1);
        });
        e.edge("at another one, so many MONTHS later as they are apart, for PRICE there then", () -> {
            ShellsByLoad x = Checks.coast("1;1;1;1;1;1", ".", "1+m*(d=5)");
            t.told("five later", x, x.trade(1), 6, 0, 5);
            Checks.rule(x, "1+m*(d=0)");
            t.told("five later", x, x.trade(1), 6, 5, 0);
            Checks.rule(x, "1+m*(d=3)");
            t.told("three later", x, x.trade(1), 4, 0, 3);
            Checks.rule(x, "1+m");
            t.told("bought at PRICE now", x, x.trade(10), 60, 0, 5);
            Checks.ships(x, "o10");
            Checks.rule(x, "o+1");
            int old = 0;
            for (int i = 0; i < 5; i++) {
                old += 100;
                old -= old * 2 / 10;
            }
            t.told("by what landed in five", x, x.trade(1), 1 + old, 5, 0);
            Checks.rule(x, "2+m*m*(d=2)-(d=2)");
            t.told("not at the same one", x, x.trade(2), 10, 5, 2);
        });
        e.edge("the most shells that he has then, what he could not spend, too", () -> {
            ShellsByLoad x = Checks.coast("1;1", ".", "7+(d=1)");
            t.told("6 left over", x, x.trade(13), 8 + 6, 0, 1);
            t.told("none left over", x, x.trade(14), 16, 0, 1);
        });
        e.edge("(of equal ones the least row)", () -> {
            ShellsByLoad x = Checks.coast("1;1;1", ".", "2");
            t.told("all equal", x, x.trade(9), 9, 0, 1);
            Checks.rule(x, "2-(d=2)");
            t.told("2 to 0, 2 to 1", x, x.trade(9), 18, 2, 0);
            Checks.rule(x, "2+(d>0)");
            t.told("0 to 1, 0 to 2", x, x.trade(8), 12, 0, 1);
        });
        e.edge("With fewer than two MARKETS: v, and no ROW (of no numbers).", () -> {
            ShellsByLoad x = new ShellsByLoad();
            x.strings(2087, 1);
            t.told("none", x, x.trade(9999), 9999);
            Checks.markets(x, "1");
            x.strings(2087, 1);
            t.told("one", x, x.trade(1), 1);
            t.refuses("another v", x, -1, () -> x.trade(0));
            Checks.markets(x, "1");
            t.told("two", x, x.trade(1), 1, 0, 1);
        });
        e.edge("NONE: another v.", () -> {
            ShellsByLoad x = EdgesOfRow.busy();
            t.refuses("v", x, -1, () -> x.trade(0), () -> x.trade(10000), () -> x.trade(-1), () -> x.trade(MIN),
                    () -> x.trade(MAX));
            ShellsByLoad none = new ShellsByLoad();
            t.refuses("no MARKETS", none, -1, () -> none.trade(0), () -> none.trade(10000));
        });
    }

    private void buys() {
        e.edge("a payment of v (0 .. 9999) shells", () -> {
            ShellsByLoad x = Checks.coast("1", ".", "2");
            int[] due = {4999, 4999, 9999, 4999, 2499};
            for (int kind = 0; kind <= 4; kind++) {
                final int k = kind;
                t.same("0", x.buys(kind, 0, 0, 0), 0);
                t.same("9999", x.buys(kind, 0, 9999, 0), due[kind]);
                t.refuses("others", x, -1, () -> x.buys(k, 0, -1, 0), () -> x.buys(k, 0, 10000, 0));
            }
        });
        e.edge("1 fixed long ago: v by PRICE at first (with what is GOODS now, no shells, MONTH 0, nothing LAID BY)", () -> {
            ShellsByLoad x = Checks.coast("40;20", "o1", "g+o*9+n*9+m*9+h*9+d*7");
            x.months(5);
            x.brings(1, 1, 50);
            x.lays(1, 1, 10);
            t.same("of 27", x.buys(1, 1, 270, 0), 10);
            t.same("of 27", x.buys(1, 1, 269, 0), 9);
            x.sheet(2, 2, 30, 3);
            t.same("of 40", x.buys(1, 1, 400, 60), 10);
            t.same("of 30 at the coast", x.buys(1, 0, 300, 60), 10);
        });
        e.edge("2 by weight: v by half of PRICE (cut) now", () -> {
            ShellsByLoad x = Checks.coast("1", ".", "7");
            t.same("by 3", x.buys(2, 0, 9, 0), 3);
            Checks.rule(x, "6");
            t.same("by 3", x.buys(2, 0, 9, 0), 3);
            Checks.rule(x, "1");
            t.same("half of 1 is 0", x.buys(2, 0, 9, 0), 9999);
        });
        e.edge("3 to come in n MONTHS (0 .. 60): v by PRICE then", () -> {
            ShellsByLoad x = Checks.coast("1", "o1", "o+1");
            t.same("now", x.buys(3, 0, 9999, 0), 9999);
            t.same("in one", x.buys(3, 0, 9999, 1), 9999 / 11);
            t.same("in 60", x.buys(3, 0, 9999, 60), 9999 / 601);
            t.refuses("others", x, -1, () -> x.buys(3, 0, 9999, -1), () -> x.buys(3, 0, 9999, 61));
        });
        e.edge("4 in broken ones: half of v (cut) by PRICE now", () -> {
            ShellsByLoad x = Checks.coast("1", ".", "1+m*2");
            t.same("none", x.buys(4, 0, 1, 1), 0);
            t.same("one", x.buys(4, 0, 2, 1), 1);
            t.same("one", x.buys(4, 0, 3, 1), 1);
            t.same("the most", x.buys(4, 0, 9999, 1), 4999);
        });
        e.edge("(each cut;", () -> {
            ShellsByLoad x = Checks.coast("1", ".", "4");
            t.same("3 by 4", x.buys(4, 0, 7, 0), 0);
            t.same("4 by 4", x.buys(4, 0, 8, 0), 1);
            t.same("4 by 4", x.buys(4, 0, 9, 0), 1);
            t.same("9 by 4", x.buys(0, 0, 9, 0), 2);
            t.same("9 by 2", x.buys(2, 0, 9, 0), 4);
            t.same("11 by 4", x.buys(1, 0, 11, 0), 2);
            t.same("11 by 4", x.buys(3, 0, 11, 0), 2);
        });
        e.edge("what it is to be parted by being 0: 9999)", () -> {
            ShellsByLoad x = Checks.coast("1", ".", "0");
            for (int kind = 0; kind <= 4; kind++) {
                t.same("0 by 0", x.buys(kind, 0, 0, 5), 9999);
                t.same("9999 by 0", x.buys(kind, 0, 9999, 5), 9999);
            }
            Checks.rule(x, "m");
            x.months(11);
            t.same("not now", x.buys(0, 0, 99, 1), 9);
            t.same("at first", x.buys(1, 0, 99, 1), 9999);
            t.same("then", x.buys(3, 0, 99, 1), 9999);
        });
    }

    private void buysRefused() {
        e.edge("NONE: others (n not 0 .. 60, whatever the kind).", () -> {
            ShellsByLoad x = EdgesOfRow.busy();
            for (int kind = 0; kind <= 4; kind++) {
                final int k = kind;
                t.refuses("n", x, -1, () -> x.buys(k, 0, 5, -1), () -> x.buys(k, 0, 5, 61), () -> x.buys(k, 0, 5, MIN),
                        () -> x.buys(k, 0, 5, MAX));
                t.refuses("v", x, -1, () -> x.buys(k, 0, -1, 0), () -> x.buys(k, 0, 10000, 0));
                t.refuses("MARKETS", x, -1, () -> x.buys(k, 3, 5, 0), () -> x.buys(k, -1, 5, 0),
                        () -> x.buys(k, MAX, 5, 0));
            }
            t.refuses("kinds", x, -1, () -> x.buys(5, 0, 5, 0), () -> x.buys(-1, 0, 5, 0), () -> x.buys(MIN, 0, 5, 0),
                    () -> x.buys(MAX, 0, 5, 0));
        });
    }

    private void best() {
        e.edge("(kind 3: in n MONTHS;", () -> {
            ShellsByLoad x = Checks.coast("1", ".", "40-m*3");
            t.told("now", x, x.best(0, 100, 0), 2, 5);
            t.told("in 6", x, x.best(0, 100, 6), 2, 5);
            t.told("in 8", x, x.best(0, 100, 8), 3, 6);
            t.told("in 11", x, x.best(0, 100, 11), 3, 14);
            t.told("in 60", x, x.best(0, 100, 60), 2, 5);
        });
        e.edge("of equal ones the least kind)", () -> {
            ShellsByLoad x = Checks.coast("1", ".", "40-m*3");
            t.told("all the same", x, x.best(0, 0, 11), 0, 0);
            Checks.rule(x, "(m<3)*90+(m>2)*45");
            t.told("2 and 3 are equal", x, x.best(0, 90, 3), 2, 2);
            Checks.rule(x, "m*9");
            t.told("all but 3 by 0", x, x.best(0, 90, 5), 0, 9999);
            x.months(1);
            t.told("1 and 3 by 0", x, x.best(0, 90, 11), 1, 9999);
            Checks.rule(x, "9-m*8");
            x.months(11);
            t.told("3 by 1", x, x.best(0, 90, 1), 3, 90);
        });
        e.edge("NONE: others (as buys()).", () -> {
            ShellsByLoad x = EdgesOfRow.busy();
            t.refuses("MARKETS", x, -1, () -> x.best(3, 5, 0), () -> x.best(-1, 5, 0), () -> x.best(MAX, 5, 0));
            t.refuses("v", x, -1, () -> x.best(0, -1, 0), () -> x.best(0, 10000, 0), () -> x.best(0, MIN, 0));
            t.refuses("n", x, -1, () -> x.best(0, 5, -1), () -> x.best(0, 5, 61), () -> x.best(0, 5, MAX));
            t.same("the least v", x.best(0, 0, 0) >= 0, true);
            t.same("the most v and n", x.best(2, 9999, 60) >= 0, true);
        });
    }

    private void closes() {
        e.edge("next n MONTHS (1 .. 8)", () -> {
            ShellsByLoad x = Checks.coast("1", "o1", "o");
            t.told("1", x, x.closes(0, 1, 8), 0, 1);
            t.told("8", x, x.closes(0, 8, 8), 0, 255);
            t.refuses("others", x, -1, () -> x.closes(0, 0, 1), () -> x.closes(0, 9, 1));
        });
        e.edge("(open in all others)", () -> {
            ShellsByLoad x = Checks.coast("1", "o1", "o");
            t.told("none closed", x, x.closes(0, 3, 0), 30, 0);
            x.port();
            t.told("closed now", x, x.closes(0, 3, 0), 30, 0);
            t.told("closed now", x, x.closes(0, 3, 1), 20, 1);
            t.same("it stays closed", x.count(5), 1);
        });
        e.edge("in c (0 .. 8) of them at most", () -> {
            ShellsByLoad x = Checks.coast("1", "o1", "o");
            for (int c = 0; c <= 8; c++) {
                t.told("c " + c, x, x.closes(0, 8, c), 80 - 10 * c, (1 << c) - 1);
                t.told("more than n", x, x.closes(0, 1, c), c == 0 ? 10 : 0, c == 0 ? 0 : 1);
            }
            t.refuses("others", x, -1, () -> x.closes(0, 8, -1), () -> x.closes(0, 8, 9));
        });
        e.edge("PRICE of a MARKET behind them is the least", () -> {
            ShellsByLoad x = Checks.coast("1", "o1o5o3", "o");
            t.told("without the greatest", x, x.closes(0, 3, 1), 40, 2);
            t.told("without two", x, x.closes(0, 3, 2), 10, 6);
            Checks.rule(x, "o+m");
            t.told("MONTH then, too", x, x.closes(0, 3, 3), 3, 7);
        });
        e.edge("(bits, 0 the first): of as good ones the fewest,", () -> {
            ShellsByLoad x = Checks.coast("1", "o1", "5");
            t.told("all as good: none", x, x.closes(0, 4, 4), 5, 0);
            Checks.rule(x, "o>20");
            t.told("two of four are needed", x, x.closes(0, 4, 4), 0, 3);
            Checks.ships(x, "o1o1o2");
            t.told("the third alone does as well as the first two", x, x.closes(0, 3, 3), 0, 4);
        });
        e.edge("then the least.", () -> {
            ShellsByLoad x = Checks.coast("1", "o1", "o");
            t.told("one of eight", x, x.closes(0, 8, 1), 70, 1);
            t.told("two of four", x, x.closes(0, 4, 2), 20, 3);
            Checks.ships(x, "o1o2");
            t.told("the second or the fourth", x, x.closes(0, 4, 1), 40, 2);
            t.told("these, and one of the others", x, x.closes(0, 4, 3), 10, 1 + 2 + 8);
        });
        e.edge("NONE: others.", () -> {
            ShellsByLoad x = EdgesOfRow.busy();
            t.refuses("MARKETS", x, -1, () -> x.closes(3, 2, 1), () -> x.closes(-1, 2, 1), () -> x.closes(MAX, 2, 1));
            t.refuses("n", x, -1, () -> x.closes(0, 0, 0), () -> x.closes(0, 9, 1), () -> x.closes(0, -1, 1),
                    () -> x.closes(0, MAX, 1), () -> x.closes(0, MIN, 1));
            t.refuses("c", x, -1, () -> x.closes(0, 2, 9), () -> x.closes(0, 2, -1), () -> x.closes(0, 2, MAX),
                    () -> x.closes(0, 2, MIN));
        });
    }

    private void grows() {
        e.edge("in n MONTHS (1 .. 60; below 0, too)", () -> {
            ShellsByLoad x = Checks.coast("1;1", "o1", "o");
            x.flow(0);
            t.told("1", x, x.grows(1), 0, 10);
            t.told("60", x, x.grows(60), 0, 600);
            t.refuses("others", x, -1, () -> x.grows(0), () -> x.grows(61));
            Checks.rule(x, "50-o/10*(2-d)-m");
            t.told("below 0", x, x.grows(5), 1, -5);
            Checks.rule(x, "50-m");
            t.told("-1", x, x.grows(1), 0, -1);
        });
        e.edge("of equal ones the first", () -> {
            ShellsByLoad x = Checks.coast("1;1;1", ".", "m");
            t.told("all", x, x.grows(7), 0, 7);
            Checks.rule(x, "m*(d>0)");
            t.told("1 and 2", x, x.grows(7), 1, 7);
            Checks.rule(x, "9-m*(d<1)");
            t.told("1 and 2 stay", x, x.grows(7), 1, 0);
        });
        e.edge("-2: there are no MARKETS", () -> {
            ShellsByLoad none = new ShellsByLoad();
            t.refuses("1", none, -2, () -> none.grows(1), () -> none.grows(60));
            t.refuses("another n first", none, -1, () -> none.grows(0), () -> none.grows(61));
        });
        e.edge("NONE: another n.", () -> {
            ShellsByLoad x = EdgesOfRow.busy();
            t.refuses("n", x, -1, () -> x.grows(0), () -> x.grows(61), () -> x.grows(-1), () -> x.grows(MIN),
                    () -> x.grows(MAX));
        });
    }

    private void reign() {
        e.edge("next n MONTHS (1 .. 8)", () -> {
            ShellsByLoad x = Checks.coast("1", "o100", "o");
            t.told("1", x, x.reign(1, 1, 0), 100, 1);
            t.told("8", x, x.reign(8, 1, 7000), 200 + 780, 2 + 128);
            t.refuses("others", x, -1, () -> x.reign(0, 1, 0), () -> x.reign(9, 1, 0));
        });
        e.edge("is to be taxed, behind the MONTH, by t tenths (1 .. 9; as taxes())", () -> {
            ShellsByLoad x = Checks.coast("1", "o1n2", "o");
            x.brings(0, 0, 9);
            t.told("a tenth of 19, cut", x, x.reign(1, 1, 0), 1, 1);
            t.told("9, both kinds", x, x.reign(2, 9, 0), 17 + 1 + 18, 3);
            t.refuses("others", x, -1, () -> x.reign(1, 0, 0), () -> x.reign(1, 10, 0));
            ShellsByLoad y = Checks.coast("1;1", ".", "o");
            y.brings(0, 0, 100);
            t.told("behind what flows on", y, y.reign(1, 9, 0), 72, 1);
            ShellsByLoad full = Checks.coast("1", "o999n999", "o");
            for (int i = 0; i < 6; i++) {
                full.months(22);
                full.taxes(0, i < 5 ? 9 : 5);
            }
            t.same("nearly full", full.count(4), 999988);
            t.told("TREASURY has 999999 at most", full, full.reign(3, 9, 0), 999999, 1);
        });
        e.edge("PRICE of MARKET 0 being v (0 .. 99999) or more then", () -> {
            ShellsByLoad x = Checks.coast("1", ".", "o");
            x.brings(0, 0, 1000);
            t.told("just so much", x, x.reign(2, 5, 500), 500, 1);
            t.told("one more", x, x.reign(2, 5, 501), 0, 0);
            t.told("0", x, x.reign(2, 5, 0), 750, 3);
            t.refuses("others", x, -1, () -> x.reign(2, 5, -1), () -> x.reign(2, 5, 100000));
            Checks.rule(x, "999*999");
            t.told("99999", x, x.reign(2, 5, 99999), 750, 3);
        });
        e.edge("then the least.", () -> {
            ShellsByLoad x = Checks.coast("1", ".", "o");
            x.brings(0, 0, 1000);
            t.told("one of eight", x, x.reign(8, 5, 500), 500, 1);
            t.told("two of eight", x, x.reign(8, 5, 250), 750, 3);
        });
        e.edge("(bits, 0 the first): of as good ones the fewest,", () -> {
            ShellsByLoad x = Checks.coast("1", ".", "9");
            t.told("nothing there: none", x, x.reign(8, 9, 0), 0, 0);
            x.brings(0, 0, 10);
            t.told("nothing is left to be taxed", x, x.reign(8, 9, 0), 9, 1);
            t.told("a tenth of 9 is none", x, x.reign(3, 1, 0), 1, 1);
            Checks.ships(x, "..o5");
            Checks.rule(x, "o");
            x.brings(0, 0, 90);
            t.told("the third alone does as well as the first two", x, x.reign(3, 5, 75), 75, 4);
        });
    }

    private void reignRefused() {
        e.edge("-2: by none,", () -> {
            ShellsByLoad x = Checks.coast("1", ".", "o");
            x.brings(0, 0, 99);
            t.refuses("by none", x, -2, () -> x.reign(2, 5, 100), () -> x.reign(8, 1, 99999));
            t.told("by one", x, x.reign(2, 5, 99), 0, 0);
        });
        e.edge("or there are no MARKETS", () -> {
            ShellsByLoad none = new ShellsByLoad();
            t.refuses("no MARKETS", none, -2, () -> none.reign(1, 1, 0), () -> none.reign(8, 9, 99999));
            t.refuses("others first", none, -1, () -> none.reign(0, 1, 0), () -> none.reign(1, 0, 0),
                    () -> none.reign(1, 1, -1));
        });
        e.edge("NONE: others.", () -> {
            ShellsByLoad x = EdgesOfRow.busy();
            t.refuses("n", x, -1, () -> x.reign(0, 1, 0), () -> x.reign(9, 1, 0), () -> x.reign(-1, 1, 0),
                    () -> x.reign(MIN, 1, 0), () -> x.reign(MAX, 1, 0));
            t.refuses("t", x, -1, () -> x.reign(1, 0, 0), () -> x.reign(1, 10, 0), () -> x.reign(1, MIN, 0),
                    () -> x.reign(1, MAX, 0));
            t.refuses("v", x, -1, () -> x.reign(1, 1, -1), () -> x.reign(1, 1, 100000), () -> x.reign(1, 1, MIN),
                    () -> x.reign(1, 1, MAX));
        });
    }

    private void melts() {
        e.edge("In how many MONTHS (0 .. 99)", () -> {
            ShellsByLoad x = Checks.coast("1", "o1", "o+10");
            t.told("0", x, x.melts(0, 9, 1), 0, 0);
            t.told("1", x, x.melts(0, 10, 1), 1, 0);
            t.told("99", x, x.melts(0, 999, 1), 99, 0);
            t.refuses("100", x, -2, () -> x.melts(0, 1000, 1));
        });
        e.edge("v (0 .. 9999) shells", () -> {
            ShellsByLoad x = Checks.coast("1", "o999", "o+1");
            t.told("0", x, x.melts(0, 0, 1), 0, 0);
            t.told("9999", x, x.melts(0, 9999, 1), 2, 0);
            t.refuses("others", x, -1, () -> x.melts(0, -1, 1), () -> x.melts(0, 10000, 1));
        });
        e.edge("first buy fewer than g (1 .. 99) GOODS", () -> {
            ShellsByLoad x = Checks.coast("1", ".", "1+m");
            t.told("1", x, x.melts(0, 5, 1), 5, 0);
            t.told("99", x, x.melts(0, 99, 99), 1, 49);
            t.told("as many are not fewer", x, x.melts(0, 98, 49), 2, 32);
            t.told("at once", x, x.melts(0, 98, 99), 0, 98);
            t.refuses("others", x, -1, () -> x.melts(0, 5, 0), () -> x.melts(0, 5, 100));
        });
        e.edge("(v by PRICE then, cut; by 0: 9999)", () -> {
            ShellsByLoad x = Checks.coast("1", ".", "m*4");
            t.told("by 4", x, x.melts(0, 7, 2), 1, 1);
            t.told("by 8", x, x.melts(0, 8, 2), 2, 1);
            t.told("0 by 0 are 9999", x, x.melts(0, 0, 1), 1, 0);
            Checks.rule(x, "0");
            t.refuses("9999 are enough", x, -2, () -> x.melts(0, 0, 99));
        });
        e.edge("-2: in none", () -> {
            ShellsByLoad x = Checks.coast("1", ".", "1+m");
            t.refuses("just enough", x, -2, () -> x.melts(0, 12, 1), () -> x.melts(0, 1188, 99));
            t.told("one too few", x, x.melts(0, 11, 1), 11, 0);
            t.told("one too few", x, x.melts(0, 1187, 99), 11, 98);
        });
        e.edge("NONE: others.", () -> {
            ShellsByLoad x = EdgesOfRow.busy();
            t.refuses("MARKETS", x, -1, () -> x.melts(3, 5, 5), () -> x.melts(-1, 5, 5), () -> x.melts(MAX, 5, 5));
            t.refuses("v", x, -1, () -> x.melts(0, -1, 5), () -> x.melts(0, 10000, 5), () -> x.melts(0, MIN, 5));
            t.refuses("g", x, -1, () -> x.melts(0, 5, 0), () -> x.melts(0, 5, 100), () -> x.melts(0, 5, MIN),
                    () -> x.melts(0, 5, MAX));
        });
    }

    private static ShellsByLoad hoard(String rule) {
        ShellsByLoad x = Checks.coast("1;1", ".", rule);
        x.brings(1, 0, 50);
        x.brings(1, 1, 60);
        x.lays(1, 0, 20);
        x.lays(1, 1, 15);
        return x;
    }

    private void when() {
        e.edge("In how many MONTHS (0 .. n; n 0 .. 60)", () -> {
            ShellsByLoad x = Checks.coast("1", "o1", "900-o");
            x.brings(0, 1, 999);
            x.lays(0, 1, 999);
            t.told("0", x, x.when(0, 0), 0, 1);
            t.told("60", x, x.when(0, 60), 57, 999 / 330);
            t.told("the last one", x, x.when(0, 57), 57, 3);
            t.told("not behind it", x, x.when(0, 56), 41, 2);
            Checks.rule(x, "999-o");
            t.told("50", x, x.when(0, 60), 50, 2);
            Checks.rule(x, "932-o");
            t.told("60 itself", x, x.when(0, 60), 60, 3);
            t.told("59 alone", x, x.when(0, 59), 44, 2);
            t.refuses("others", x, -1, () -> x.when(0, -1), () -> x.when(0, 61));
        });
        e.edge("what is LAID BY at a MARKET now, twice its OLD and its NEW", () -> {
            ShellsByLoad x = hoard("1");
            t.told("20 OLD and 15 NEW", x, x.when(1, 0), 0, 55);
            t.told("none", x, x.when(0, 0), 0, 0);
        });
        e.edge("(by PRICE then, cut; by 0: 9999)", () -> {
            ShellsByLoad x = hoard("7");
            t.told("55 by 7", x, x.when(1, 9), 0, 7);
            Checks.rule(x, "7-m");
            t.told("by 0", x, x.when(1, 9), 7, 9999);
            t.told("of none", x, x.when(0, 9), 7, 9999);
            ShellsByLoad fresh = Checks.coast("1;1");
            t.told("of none, by 0, ahead of any deed", fresh, fresh.when(1, 60), 0, 9999);
            x.brings(1, 0, 9000);
            x.lays(1, 0, 9000);
            t.told("18055 by 1 is more", x, x.when(1, 9), 6, 18055);
        });
        e.edge("nothing being done: of equal ones the first", () -> {
            ShellsByLoad x = hoard("60-m");
            t.told("all none", x, x.when(1, 4), 0, 0);
            t.told("the first that buys one", x, x.when(1, 60), 5, 1);
            Checks.rule(x, "1+m");
            t.told("again in twelve", x, x.when(1, 60), 0, 55);
            Checks.rule(x, "h");
            t.told("it stays LAID BY", x, x.when(1, 60), 0, 55 / 35);
        });
        e.edge("NONE: others.", () -> {
            ShellsByLoad x = EdgesOfRow.busy();
            t.refuses("MARKETS", x, -1, () -> x.when(3, 0), () -> x.when(-1, 0), () -> x.when(MIN, 0),
                    () -> x.when(MAX, 0));
            t.refuses("n", x, -1, () -> x.when(0, -1), () -> x.when(0, 61), () -> x.when(0, MIN), () -> x.when(0, MAX));
        });
    }

    private void rises() {
        e.edge("MARKETS (bits) whose PRICE is more in n MONTHS (1 .. 60) than now", () -> {
            ShellsByLoad x = Checks.coast("1;1;1;1;1;1", "o1", "o*(d=0)+500-(d=5)*(m>0)");
            x.flow(0);
            t.told("1", x, x.rises(1), 1, 32);
            t.told("60", x, x.rises(60), 1, 0);
            t.refuses("others", x, -1, () -> x.rises(0), () -> x.rises(61));
            Checks.rule(x, "m");
            t.told("all six", x, x.rises(1), 63, 0);
            t.told("as much is not more", x, x.rises(12), 0, 0);
            ShellsByLoad none = new ShellsByLoad();
            t.told("no MARKETS", none, none.rises(60), 0, 0);
        });
        e.edge("those where it is less.", () -> {
            ShellsByLoad x = Checks.coast("1;1;1;1;1;1", ".", "50-m");
            t.told("all six", x, x.rises(1), 0, 63);
            t.told("as much is not less", x, x.rises(12), 0, 0);
            Checks.rule(x, "50-m*(d=3)");
            t.told("one", x, x.rises(1), 0, 8);
        });
        e.edge("NONE: another n.", () -> {
            ShellsByLoad x = EdgesOfRow.busy();
            t.refuses("n", x, -1, () -> x.rises(0), () -> x.rises(61), () -> x.rises(-1), () -> x.rises(MIN),
                    () -> x.rises(MAX));
        });
    }

    private void caravan() {
        e.edge("with v (1 .. 9999) shells", () -> {
            ShellsByLoad x = Checks.coast("1;1", ".", "1+d");
            t.told("1", x, x.caravan(1), 2, 2, 1);
            t.told("9999", x, x.caravan(9999), 19998, 2, 1);
            t.refuses("others", x, -1, () -> x.caravan(0), () -> x.caravan(10000));
        });
        e.edge("a MARKET a MONTH; at each MARKET it does nothing (0)", () -> {
            ShellsByLoad x = Checks.coast("1;1;1;1;1;1", ".", "9-d");
            t.told("nothing anywhere", x, x.caravan(100), 100, 0, 0, 0, 0, 0, 0);
            Checks.rule(x, "2+(d=5)*m");
            t.told("nothing at the first four, MONTH 5 at the last", x, x.caravan(2), 7, 0, 0, 0, 0, 2, 1);
            Checks.rule(x, "2-(d=0)+(d=5)*m");
            t.told("nothing between", x, x.caravan(2), 14, 2, 0, 0, 0, 0, 1);
        });
        e.edge("(1; it has 999999999 shells at most)", () -> {
            ShellsByLoad x = Checks.coast("1;1", ".", "1+(d=1)*999*999");
            t.told("less", x, x.caravan(9999), 999890001, 2, 1);
            Checks.markets(x, "1;1");
            Checks.rule(x, "1+(d=1)+(d=3)*999*999");
            t.told("at most", x, x.caravan(9999), 999999999, 2, 1, 2, 1);
            Checks.rule(x, "1+(d=1)*999*999+(d=3)*999*999");
            t.told("far more", x, x.caravan(9999), 999999999, 2, 1, 2, 1);
        });
        e.edge("as many as PRICE there then allows (2; none for 0)", () -> {
            ShellsByLoad x = Checks.coast("1;1", ".", "10+10*d");
            t.told("9 buy none", x, x.caravan(9), 9, 0, 0);
            t.told("10 buy one", x, x.caravan(10), 20, 2, 1);
            t.told("19 buy one, 9 stay", x, x.caravan(19), 29, 2, 1);
            Checks.rule(x, "20*d");
            t.told("none for 0", x, x.caravan(19), 19, 0, 0);
            Checks.rule(x, "5+20*m");
            t.told("PRICE then", x, x.caravan(5), 25, 2, 1);
            Checks.ships(x, "o10");
            Checks.rule(x, "o+1");
            t.told("by what landed since", x, x.caravan(5), 5 * 21, 2, 1);
        });
        e.edge("the most shells that it can have at the last MARKET, what it does there, too", () -> {
            ShellsByLoad x = Checks.coast("1;1;1", ".", "1+d");
            t.told("it sells at the last one", x, x.caravan(7), 21, 2, 0, 1);
            ShellsByLoad one = Checks.coast("1", ".", "5");
            t.told("the first is the last", one, one.caravan(7), 7, 0);
        });
        e.edge("of as good ones the least row.", () -> {
            ShellsByLoad x = Checks.coast("1;1;1", ".", "5");
            t.told("all the same", x, x.caravan(100), 100, 0, 0, 0);
            Checks.rule(x, "2+(d=2)*2");
            t.told("as late as can be", x, x.caravan(10), 20, 0, 2, 1);
            Checks.rule(x, "2+(d=1)*2+(d=2)*2");
            t.told("it sells as late as it can", x, x.caravan(10), 20, 2, 0, 1);
            Checks.rule(x, "2+(d=1)*2-(d=2)");
            t.told("nothing at the last one", x, x.caravan(10), 20, 2, 1, 0);
            fromEachToEach();
        });
    }

    /** Buying is cheapest at one MARKET, selling dearest at a later one. */
    private void fromEachToEach() {
        for (int size = 2; size <= 6; size++) {
            ShellsByLoad x = Checks.coast("1" + ";1".repeat(size - 1), ".");
            for (int from = 0; from < size; from++) {
                for (int to = from + 1; to < size; to++) {
                    Checks.rule(x, "3-(d=" + from + ")+(d=" + to + ")*4");
                    long[] due = new long[size];
                    due[from] = 2;
                    due[to] = 1;
                    t.told(from + " to " + to + " of " + size, x, x.caravan(101), 351, due);
                }
            }
        }
    }

    private void caravanRefused() {
        e.edge("-2: there are no MARKETS", () -> {
            ShellsByLoad none = new ShellsByLoad();
            t.refuses("none", none, -2, () -> none.caravan(1), () -> none.caravan(9999));
            t.refuses("another v first", none, -1, () -> none.caravan(0), () -> none.caravan(10000));
        });
        e.edge("NONE: another v.", () -> {
            ShellsByLoad x = EdgesOfRow.busy();
            t.refuses("v", x, -1, () -> x.caravan(0), () -> x.caravan(10000), () -> x.caravan(-1), () -> x.caravan(MIN),
                    () -> x.caravan(MAX));
        });
    }
}
