/** The boundaries of promises 10 to 19. */
final class EdgesOfMonths {
    private static final int MIN = Integer.MIN_VALUE;
    private static final int MAX = Integer.MAX_VALUE;

    private final Edges e;
    private final Checks t;

    private EdgesOfMonths(Edges edges) {
        e = edges;
        t = edges.checks;
    }

    static void run(Edges edges) {
        EdgesOfMonths all = new EdgesOfMonths(edges);
        edges.of("Promise 10: months");
        all.months();
        edges.of("Promise 11: brings");
        all.brings();
        edges.of("Promise 12: lays");
        all.lays();
        edges.of("Promise 13: spends");
        all.spends();
        edges.of("Promise 14: taxes");
        all.taxes();
        edges.of("Promise 15: burns");
        all.burns();
        edges.of("Promise 16: port");
        all.port();
        edges.of("Promise 17: flow");
        all.flow();
        edges.of("Promise 18: year");
        all.year();
        all.yearRefused();
        all.badYears();
        edges.of("Promise 19: undo");
        all.undo();
        all.forgotten();
    }

    private void months() {
        e.edge("n MONTHS (0 .. 60): PRICE of MARKET 0 then", () -> {
            ShellsByLoad x = Checks.coast("5", "o1", "o+m");
            t.same("none", x.months(0), 0);
            t.same("MONTH", x.count(2), 0);
            t.same("one", x.months(1), 11);
            t.same("60", x.months(60), 610 + 1);
            t.same("MONTH", x.count(2), 61);
        });
        e.edge("(0 without MARKETS)", () -> {
            ShellsByLoad x = new ShellsByLoad();
            Checks.rule(x, "7");
            Checks.ships(x, "o1");
            t.same("PRICE", x.months(3), 0);
            t.same("MONTH", x.count(2), 3);
        });
        e.edge("shells that landed in these", () -> {
            ShellsByLoad x = Checks.coast("5;5", "o3n4.");
            t.told("none in none", x, x.months(0), 0, 0, 0);
            x.months(7);
            t.same("seven", x.row(0), 30 + 40 + 30 + 40 + 30);
            x.months(2);
            t.same("of these two alone", x.row(0), 40);
            x.port();
            x.months(3);
            t.same("closed", x.row(0), 0);
            ShellsByLoad full = Checks.coast("5", "o999");
            full.months(11);
            t.same("99999 at most", full.row(0), 99999);
            full.months(1);
            t.same("no more", full.row(0), 0);
            ShellsByLoad none = Checks.coast("", "o1");
            none.months(3);
            t.same("nowhere to land", none.row(0), 0);
        });
        e.edge("PRICE of the last MARKET then (0 without).", () -> {
            ShellsByLoad x = Checks.coast("5;5;5", "o1", "d*100+m");
            t.told("of three", x, x.months(2), 2, 20, 202);
            Checks.markets(x, "5;5;5");
            t.told("of six", x, x.months(2), 4, 20, 504);
            ShellsByLoad one = Checks.coast("5", ".", "m");
            t.told("of one", one, one.months(5), 5, 0, 5);
            ShellsByLoad none = Checks.coast("", ".", "7");
            t.told("without", none, none.months(5), 0, 0, 0);
        });
        e.edge("Refused: another n.", () -> {
            ShellsByLoad x = EdgesOfRow.busy();
            t.refuses("another n", x, -1, () -> x.months(-1), () -> x.months(61), () -> x.months(MIN),
                    () -> x.months(MAX));
        });
    }

    private void brings() {
        e.edge("n (1 .. 9999) shells", () -> {
            ShellsByLoad x = Checks.coast("5");
            t.same("1", x.brings(0, 0, 1), 1);
            t.same("9999", x.brings(0, 0, 9999), 10000);
            t.refuses("others", x, -1, () -> x.brings(0, 0, 0), () -> x.brings(0, 0, 10000));
        });
        e.edge("of a kind (0 OLD, 1 NEW)", () -> {
            ShellsByLoad x = Checks.coast("5");
            t.same("OLD", x.brings(0, 0, 7), 7);
            t.same("NEW", x.brings(0, 1, 8), 8);
            t.same("OLD", x.market(0, 1), 7);
            t.same("NEW", x.market(0, 2), 8);
            t.refuses("others", x, -1, () -> x.brings(0, -1, 7), () -> x.brings(0, 2, 7));
        });
        e.edge("come to a MARKET (99999 at most)", () -> {
            ShellsByLoad x = Checks.coast("5;5");
            for (int kind = 0; kind < 2; kind++) {
                for (int i = 0; i < 10; i++) {
                    x.brings(1, kind, 9999);
                }
                t.same("just as many", x.brings(1, kind, 9), 99999);
                t.same("one more", x.brings(1, kind, 1), 99999);
                t.same("many more", x.brings(1, kind, 9999), 99999);
                t.same("there", x.market(1, 1 + kind), 99999);
                t.same("not at the other one", x.market(0, 1 + kind), 0);
            }
        });
        e.edge("Refused: others.", () -> {
            ShellsByLoad x = EdgesOfRow.busy();
            t.refuses("MARKETS", x, -1, () -> x.brings(3, 0, 7), () -> x.brings(-1, 0, 7), () -> x.brings(6, 0, 7),
                    () -> x.brings(MIN, 0, 7), () -> x.brings(MAX, 0, 7));
            t.refuses("kinds", x, -1, () -> x.brings(0, 2, 7), () -> x.brings(0, MIN, 7), () -> x.brings(0, MAX, 7));
            t.refuses("n", x, -1, () -> x.brings(0, 0, 0), () -> x.brings(0, 0, -7), () -> x.brings(0, 0, MIN),
                    () -> x.brings(0, 0, MAX));
            ShellsByLoad none = new ShellsByLoad();
            t.refuses("no MARKETS", none, -1, () -> none.brings(0, 0, 7));
        });
    }

    private static ShellsByLoad filled(int market, int kind) {
        ShellsByLoad x = Checks.coast("5;5");
        for (int i = 0; i < 11; i++) {
            x.brings(market, kind, 9999);
        }
        return x;
    }

    private void lays() {
        e.edge("n (1 .. 9999) shells of a kind are LAID BY at a MARKET", () -> {
            for (int kind = 0; kind < 2; kind++) {
                final int k = kind;
                ShellsByLoad x = filled(1, kind);
                t.same("1", x.lays(1, kind, 1), 1);
                t.same("9999", x.lays(1, kind, 9999), 10000);
                t.same("they are no more there", x.market(1, 1 + kind), 89999);
                t.same("LAID BY", x.market(1, 3 + kind), 10000);
                t.refuses("others", x, -1, () -> x.lays(1, k, 0), () -> x.lays(1, k, 10000));
            }
        });
        e.edge("-2: there are not so many", () -> {
            ShellsByLoad x = Checks.coast("5;5");
            t.refuses("none", x, -2, () -> x.lays(0, 0, 1), () -> x.lays(1, 1, 9999));
            x.brings(1, 0, 70);
            x.brings(1, 1, 80);
            t.refuses("one too many", x, -2, () -> x.lays(1, 0, 71), () -> x.lays(1, 1, 81), () -> x.lays(0, 0, 70));
            t.same("all OLD", x.lays(1, 0, 70), 70);
            t.same("all NEW", x.lays(1, 1, 80), 80);
            t.refuses("what is LAID BY is not there", x, -2, () -> x.lays(1, 0, 1), () -> x.lays(1, 1, 1));
        });
        e.edge("-3: there would be more than 99999", () -> {
            for (int i = 0; i < 4; i++) {
                tooManyLaidBy(i / 2, i % 2);
            }
        });
        e.edge("NONE: others.", () -> {
            ShellsByLoad x = EdgesOfRow.busy();
            t.refuses("MARKETS", x, -1, () -> x.lays(3, 0, 7), () -> x.lays(-1, 0, 7), () -> x.lays(6, 0, 7),
                    () -> x.lays(MIN, 0, 7), () -> x.lays(MAX, 0, 7));
            t.refuses("kinds", x, -1, () -> x.lays(0, 2, 7), () -> x.lays(0, -1, 7), () -> x.lays(0, MIN, 7),
                    () -> x.lays(0, MAX, 7));
            t.refuses("n", x, -1, () -> x.lays(0, 0, -7), () -> x.lays(0, 0, MIN), () -> x.lays(0, 0, MAX));
        });
    }

    private void tooManyLaidBy(int market, int kind) {
        ShellsByLoad x = filled(market, kind);
        for (int i = 0; i < 10; i++) {
            x.lays(market, kind, 9999);
            x.brings(market, kind, 9999);
        }
        t.refuses("one too many", x, -3, () -> x.lays(market, kind, 10), () -> x.lays(market, kind, 9999));
        t.same("just as many", x.lays(market, kind, 9), 99999);
        t.refuses("one too many", x, -3, () -> x.lays(market, kind, 1));
        x.brings(1 - market, kind, 7);
        t.same("there is room at the other one", x.lays(1 - market, kind, 7), 7);
    }

    private void spends() {
        e.edge("n (1 .. 9999) shells of a kind that are LAID BY at a MARKET are spent there", () -> {
            for (int kind = 0; kind < 2; kind++) {
                final int k = kind;
                ShellsByLoad x = filled(1, kind);
                x.lays(1, kind, 9999);
                x.lays(1, kind, 9999);
                t.same("1", x.spends(1, kind, 1), 19997);
                t.same("there again", x.market(1, 1 + kind), 80002);
                t.same("9999", x.spends(1, kind, 9999), 9998);
                t.same("there again", x.market(1, 1 + kind), 90001);
                t.refuses("others", x, -1, () -> x.spends(1, k, 0), () -> x.spends(1, k, 10000));
            }
        });
        e.edge("(99999 there at most)", () -> {
            for (int kind = 0; kind < 2; kind++) {
                ShellsByLoad x = filled(1, kind);
                x.lays(1, kind, 100);
                x.brings(1, kind, 60);
                t.same("just as many", x.spends(1, kind, 40), 60);
                t.same("there", x.market(1, 1 + kind), 99999);
                t.same("one too many", x.spends(1, kind, 1), 59);
                t.same("many too many", x.spends(1, kind, 59), 0);
                t.same("there", x.market(1, 1 + kind), 99999);
            }
        });
        e.edge("-2: there are not so many", () -> {
            ShellsByLoad x = Checks.coast("5;5");
            x.brings(1, 0, 500);
            x.brings(1, 1, 500);
            t.refuses("none", x, -2, () -> x.spends(1, 0, 1), () -> x.spends(1, 1, 9999));
            x.lays(1, 0, 70);
            x.lays(1, 1, 80);
            t.refuses("one too many", x, -2, () -> x.spends(1, 0, 71), () -> x.spends(1, 1, 81),
                    () -> x.spends(0, 0, 70));
            t.same("all OLD", x.spends(1, 0, 70), 0);
            t.same("all NEW", x.spends(1, 1, 80), 0);
        });
        e.edge("NONE: others.", () -> {
            ShellsByLoad x = EdgesOfRow.busy();
            t.refuses("MARKETS", x, -1, () -> x.spends(3, 0, 7), () -> x.spends(-1, 0, 7), () -> x.spends(6, 0, 7),
                    () -> x.spends(MIN, 0, 7), () -> x.spends(MAX, 0, 7));
            t.refuses("kinds", x, -1, () -> x.spends(0, 2, 7), () -> x.spends(0, -1, 7), () -> x.spends(0, MIN, 7),
                    () -> x.spends(0, MAX, 7));
            t.refuses("n", x, -1, () -> x.spends(0, 0, -7), () -> x.spends(0, 0, MIN), () -> x.spends(0, 0, MAX));
        });
    }

    private void taxes() {
        e.edge("t tenths (1 .. 9; cut, of each kind) of what is at a MARKET", () -> {
            ShellsByLoad x = Checks.coast("5;5");
            x.brings(1, 0, 19);
            x.brings(1, 1, 15);
            x.brings(0, 0, 1000);
            t.same("1 tenth", x.taxes(1, 1), 1 + 1);
            t.same("OLD", x.market(1, 1), 18);
            t.same("NEW", x.market(1, 2), 14);
            t.same("9 tenths", x.taxes(1, 9), 2 + 16 + 12);
            t.same("OLD", x.market(1, 1), 2);
            t.same("NEW", x.market(1, 2), 2);
            t.same("cut to nothing", x.taxes(1, 4), 30);
            t.same("at that one alone", x.market(0, 1), 1000);
            t.refuses("others", x, -1, () -> x.taxes(1, 0), () -> x.taxes(1, 10));
            ShellsByLoad hoard = Checks.coast("5");
            hoard.brings(0, 0, 50);
            hoard.lays(0, 0, 50);
            t.same("not what is LAID BY", hoard.taxes(0, 9), 0);
        });
        e.edge("go into the TREASURY (999999 at most)", () -> {
            ShellsByLoad x = Checks.coast("5");
            for (int i = 0; i < 20; i++) {
                for (int k = 0; k < 10; k++) {
                    x.brings(0, 0, 9999);
                }
                int due = Math.min(999999, x.count(4) + x.market(0, 1) * 9 / 10);
                t.same("TREASURY", x.taxes(0, 9), due);
            }
            t.same("at most", x.count(4), 999999);
            x.brings(0, 0, 9999);
            int had = x.market(0, 1);
            t.same("no more", x.taxes(0, 1), 999999);
            t.same("they go all the same", x.market(0, 1), had - had / 10);
        });
        e.edge("NONE: others.", () -> {
            ShellsByLoad x = EdgesOfRow.busy();
            t.refuses("MARKETS", x, -1, () -> x.taxes(3, 1), () -> x.taxes(-1, 1), () -> x.taxes(6, 1),
                    () -> x.taxes(MIN, 1), () -> x.taxes(MAX, 1));
            t.refuses("t", x, -1, () -> x.taxes(0, 0), () -> x.taxes(0, 10), () -> x.taxes(0, -1),
                    () -> x.taxes(0, MIN), () -> x.taxes(0, MAX));
            ShellsByLoad none = new ShellsByLoad();
            t.refuses("no MARKETS", none, -1, () -> none.taxes(0, 1));
        });
    }

    private void burns() {
        e.edge("All NEW shells at a MARKET are burnt for lime: how many.", () -> {
            ShellsByLoad x = filled(1, 1);
            x.brings(1, 0, 7);
            x.brings(0, 1, 8);
            t.same("all", x.burns(1), 99999);
            t.same("NEW", x.market(1, 2), 0);
            t.same("OLD", x.market(1, 1), 7);
            t.same("at that one alone", x.market(0, 2), 8);
            x.brings(1, 1, 1);
            t.same("one", x.burns(1), 1);
        });
        e.edge("-2: there are none", () -> {
            ShellsByLoad x = Checks.coast("5;5");
            x.brings(1, 0, 7);
            x.brings(1, 1, 8);
            x.lays(1, 1, 8);
            t.refuses("none", x, -2, () -> x.burns(0), () -> x.burns(1));
        });
        e.edge("NONE: none such.", () -> {
            ShellsByLoad x = EdgesOfRow.busy();
            t.refuses("none such", x, -1, () -> x.burns(3), () -> x.burns(-1), () -> x.burns(6), () -> x.burns(MIN),
                    () -> x.burns(MAX));
            ShellsByLoad none = new ShellsByLoad();
            t.refuses("no MARKETS", none, -1, () -> none.burns(0));
        });
    }

    private void port() {
        e.edge("1 if it is closed then, else 0.", () -> {
            ShellsByLoad x = new ShellsByLoad();
            for (int i = 1; i <= 6; i++) {
                t.same("time " + i, x.port(), i % 2);
                t.same("count(5)", x.count(5), i % 2);
            }
        });
    }

    private void flow() {
        e.edge("FLOW becomes v (0 .. 9): what it was.", () -> {
            ShellsByLoad x = Checks.coast("5;5");
            t.same("0", x.flow(0), 2);
            t.same("9", x.flow(9), 0);
            t.same("count(3)", x.count(3), 9);
            t.same("9 again", x.flow(9), 9);
            t.refuses("others", x, -1, () -> x.flow(10), () -> x.flow(-1));
        });
        e.edge("Refused: others.", () -> {
            ShellsByLoad x = EdgesOfRow.busy();
            t.refuses("others", x, -1, () -> x.flow(10), () -> x.flow(-1), () -> x.flow(MIN), () -> x.flow(MAX));
        });
    }

    private static ShellsByLoad rich() {
        ShellsByLoad x = Checks.coast("5;5", "o100n100");
        for (int kind = 0; kind < 2; kind++) {
            x.brings(0, kind, 5000);
            x.brings(1, kind, 5000);
            x.lays(1, kind, 1000);
        }
        return x;
    }

    private void year() {
        e.edge("(an empty one: nothing)", () -> {
            ShellsByLoad x = rich();
            x.taxes(0, 1);
            int had = x.count(10);
            t.told("nothing", x, x.year(), 0, 0, 1000);
            t.same("nothing to undo of it", x.count(10), had);
            t.same("MONTH", x.count(2), 0);
        });
        e.edge("m and a digit (months())", () -> {
            ShellsByLoad x = rich();
            t.told("none, and nine", x, Checks.year(x, "m0m9"), 2, 0, 0);
            t.same("MONTH", x.count(2), 9);
            t.same("OLD that came and landed", x.count(6), 9000 + 5 * 1000);
            t.same("NEW that came and landed", x.count(7), 9000 + 4 * 1000);
        });
        e.edge("t, a digit (MARKET), a digit 1 .. 9 (taxes())", () -> {
            ShellsByLoad x = rich();
            t.same("0", Checks.year(x, "t00"), -3);
            t.told("1", x, Checks.year(x, "t01"), 1, 0, 1000);
            t.told("9", x, Checks.year(x, "t19"), 1, 0, 1000 + 7200);
            t.told("no such MARKET", x, Checks.year(x, "t21"), 0, 1, 8200);
        });
        e.edge("b and a digit (burns()), p (port()), f and a digit (flow())", () -> {
            ShellsByLoad x = rich();
            t.told("all", x, Checks.year(x, "b1pf0"), 3, 0, 0);
            t.same("NEW", x.market(1, 2), 0);
            t.same("THE PORT", x.count(5), 1);
            t.same("FLOW", x.count(3), 0);
            t.told("9", x, Checks.year(x, "f9"), 1, 0, 0);
            t.same("FLOW", x.count(3), 9);
        });
        e.edge("l, s: a digit (MARKET), o or n, a digit 1 .. 9 (lays(), spends() by 100 times so many)", () -> {
            ShellsByLoad x = rich();
            t.same("0", Checks.year(x, "l1o0"), -4);
            t.same("0", Checks.year(x, "s1n0"), -4);
            t.told("1 and 9", x, Checks.year(x, "l1o1l1n9"), 2, 0, 0);
            t.same("OLD LAID BY", x.market(1, 3), 1100);
            t.same("NEW LAID BY", x.market(1, 4), 1900);
            t.told("9 and 1", x, Checks.year(x, "s1o9s1n1"), 2, 0, 0);
            t.same("OLD LAID BY", x.market(1, 3), 200);
            t.same("NEW LAID BY", x.market(1, 4), 1800);
        });
    }

    private void refusedAct(String acts, int done, int month) {
        ShellsByLoad x = rich();
        t.told(acts, x, Checks.year(x, acts), done, 1, x.count(4));
        t.same("MONTH behind " + acts, x.count(2), month);
    }

    private void yearRefused() {
        e.edge("till one is refused (it answers below 0): how many were done", () -> {
            refusedAct("t51m1", 0, 0);
            refusedAct("m1t51m1", 1, 1);
            refusedAct("b9m1", 0, 0);
            refusedAct("b1b1m1", 1, 0);
            refusedAct("pppl2o1m1", 3, 0);
            refusedAct("m2s2n1m1", 1, 2);
            refusedAct("l1o9".repeat(5) + "m1", 4, 0);
            refusedAct("s1n9s1n9m1", 1, 0);
            refusedAct("p".repeat(57) + "b5p", 57, 0);
        });
        e.edge("1 if one was refused, else 0; TREASURY then.", () -> {
            ShellsByLoad x = rich();
            t.told("none was", x, Checks.year(x, "t01"), 1, 0, 1000);
            t.told("the last", x, Checks.year(x, "t01b5"), 1, 1, 1900);
            t.told("the first", x, Checks.year(x, "b5t01"), 0, 1, 1900);
            t.told("none", x, Checks.year(x, ""), 0, 0, 1900);
        });
        e.edge("nothing is done then.", () -> {
            ShellsByLoad x = rich();
            t.refuses("a bad sign at the end", x, -1 - 6, () -> Checks.year(x, "m1t01px"));
            t.refuses("too early an end", x, -1 - 6, () -> Checks.year(x, "m1t01b"));
            t.refuses("too many", x, -61, () -> Checks.year(x, "p".repeat(61)));
        });
    }

    private void badYear(String text, int p) {
        ShellsByLoad x = rich();
        t.refuses("'" + text + "'", x, -1 - p, () -> Checks.year(x, text));
    }

    private void badYears() {
        e.edge("-1 - p: the sign at p can't stand there", () -> {
            String[] texts = {"x", "5", ";", "mx", "m12", "tx", "t0x", "t00", "t011", "bx", "b00", "p0", "fx", "f00",
                "lx", "l00", "l0x", "l0p1", "l0o0", "l0ox", "l0o11", "s0x", "s0n0", "s0nx", "m1;m1"};
            int[] p = {0, 0, 0, 1, 2, 1, 2, 2, 3, 1, 2, 1, 1, 2, 1, 2, 2, 2, 3, 3, 4, 2, 3, 3, 2};
            for (int i = 0; i < texts.length; i++) {
                badYear(texts[i], p[i]);
            }
            for (String sign : new String[] {":", "/", ";"}) {
                badYear("m" + sign, 1);
                badYear("t" + sign + "1", 1);
                badYear("t0" + sign, 2);
                badYear("l0o" + sign, 3);
                badYear(sign, 0);
            }
            badYear("p".repeat(59) + "x", 59);
            badYear("p".repeat(58) + "m-", 59);
        });
        e.edge("(its end, if it ends too early", () -> {
            String[] texts = {"m", "t", "t0", "b", "f", "l", "l0", "l0o", "s", "s0", "s0n", "pm1s0n"};
            for (String text : texts) {
                badYear(text, text.length());
            }
            badYear("p".repeat(59) + "m", 60);
            badYear("p".repeat(57) + "l0o", 60);
        });
        e.edge("60, if it has more and the first 60 could go on or end)", () -> {
            badYear("p".repeat(61), 60);
            badYear("p".repeat(60) + "x", 60);
            badYear("p".repeat(80), 60);
            badYear("p".repeat(59) + "m1", 60);
            badYear("p".repeat(59) + "mx", 60);
            badYear("p".repeat(57) + "l0o1", 60);
            badYear("p".repeat(57) + "l0x1", 59);
            badYear("p".repeat(30) + "x" + "p".repeat(30), 30);
            t.same("60 alone", Checks.year(rich(), "p".repeat(60)), 60);
        });
    }

    private static Checks.Call[] deeds(ShellsByLoad x) {
        return new Checks.Call[] {() -> x.months(0), () -> x.months(1), () -> x.brings(0, 0, 5), () -> x.lays(0, 0, 5),
            () -> x.spends(1, 0, 5), () -> x.taxes(0, 1), () -> x.burns(0), () -> x.port(), () -> x.flow(2),
            () -> Checks.year(x, "m1pb1")};
    }

    private void undo() {
        e.edge("(of 15 that are kept, the latest ones;", () -> {
            ShellsByLoad x = Checks.coast("5");
            for (int i = 1; i <= 17; i++) {
                x.brings(0, 0, i);
                t.same("kept", x.count(10), Math.min(15, i));
            }
            for (int i = 1; i <= 15; i++) {
                t.same("undo()", x.undo(), 15 - i);
            }
            t.same("the first two stay", x.market(0, 1), 1 + 2);
            t.refuses("no more", x, -1, () -> x.undo());
        });
        e.edge("such as were done;", () -> {
            ShellsByLoad x = rich();
            Checks.Call[] all = deeds(x);
            for (int i = 0; i < all.length; i++) {
                int had = x.count(10);
                String before = Checks.shownButRow(x);
                t.same("deed " + i, all[i].answer() >= 0, true);
                t.same("one more behind deed " + i, x.count(10), had + 1);
                t.same("undo()", x.undo(), had);
                t.same("as before deed " + i, before.equals(Checks.shownButRow(x)), true);
            }
            String[] states = new String[all.length];
            for (int i = 0; i < all.length; i++) {
                states[i] = Checks.shownButRow(x);
                all[i].answer();
            }
            for (int i = all.length - 1; i >= 0; i--) {
                x.undo();
                states[i] = states[i].replaceAll("c10=[0-9]+", "");
                String after = Checks.shownButRow(x).replaceAll("c10=[0-9]+", "");
                t.same("as before deed " + i + " of all", states[i].equals(after), true);
            }
            int had = x.count(10);
            for (Checks.Call refused : EdgesOfRow.refused(x)) {
                refused.answer();
            }
            t.same("-2 of lays()", x.lays(0, 0, 9999), -2);
            t.same("-2 of spends()", x.spends(0, 0, 1), -2);
            Checks.year(x, "x");
            t.same("no more behind refused ones", x.count(10), had);
        });
        e.edge("year() of which one act was done, as one)", () -> {
            ShellsByLoad x = rich();
            int had = x.count(10);
            Checks.year(x, "b5p");
            t.same("none was done", x.count(10), had);
            Checks.year(x, "pb5p");
            t.same("one was", x.count(10), had + 1);
            Checks.year(x, "m1m2t01p");
            t.same("four were", x.count(10), had + 2);
            t.same("undo()", x.undo(), had + 1);
            t.same("all four", x.count(2) + x.count(4), 0);
            t.same("THE PORT", x.count(5), 1);
            t.same("undo()", x.undo(), had);
            t.same("THE PORT", x.count(5), 0);
        });
        e.edge("(OLD, NEW, LAID BY, FLOW, MONTH, TREASURY, THE PORT are as ahead of it): how many are left that can be.", () -> {
            ShellsByLoad x = rich();
            String before = Checks.shownButRow(x);
            int had = x.count(10);
            t.same("all done", Checks.year(x, "m3t04t15l0o2l1n3s1o4b0pf7"), 9);
            t.same("undo()", x.undo(), had);
            t.same("as before", before.equals(Checks.shownButRow(x)), true);
            for (int left = had - 1; left >= 0; left--) {
                t.same("undo()", x.undo(), left);
                t.same("count(10)", x.count(10), left);
            }
            t.same("nothing there", x.count(6) + x.count(7) + x.count(8), 0);
        });
        e.edge("Refused: none.", () -> {
            ShellsByLoad x = new ShellsByLoad();
            t.refuses("a new one", x, -1, () -> x.undo());
            x.port();
            x.undo();
            t.refuses("all undone", x, -1, () -> x.undo());
        });
    }

    private void forgotten() {
        e.edge("(markets() and again() forget them, if they are not refused", () -> {
            ShellsByLoad x = Checks.coast("5");
            x.keep(0);
            x.port();
            x.port();
            t.same("a bad text", Checks.markets(x, "5;"), -3);
            t.same("stay", x.count(10), 2);
            t.same("nothing kept", x.again(1), false);
            t.same("stay", x.count(10), 2);
            t.same("again(0)", x.again(0), true);
            t.refuses("forgotten", x, -1, () -> x.undo());
            x.port();
            t.same("one MARKET", Checks.markets(x, "5"), 1);
            t.refuses("forgotten", x, -1, () -> x.undo());
            x.port();
            t.same("MARKETS came", x.again(0), false);
            t.same("stays", x.count(10), 1);
            Checks.ships(x, "o1");
            Checks.rule(x, "5");
            Checks.pays(x, "5", 5);
            x.sheet(2, 2, 5, 5);
            x.left(5, 2);
            x.keep(2);
            x.years(5, 5);
            t.same("no other call forgets it", x.count(10), 1);
            t.same("undo()", x.undo(), 0);
        });
        e.edge("an empty markets() does not.)", () -> {
            ShellsByLoad x = Checks.coast("5");
            x.port();
            x.port();
            t.same("an empty one", Checks.markets(x, ""), 0);
            t.same("undo()", x.undo(), 1);
        });
    }
}
