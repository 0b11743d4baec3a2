/** The boundaries of promises 1 to 9. */
final class EdgesOfMarkets {
    private static final int MIN = Integer.MIN_VALUE;
    private static final int MAX = Integer.MAX_VALUE;

    private final Edges e;
    private final Checks t;

    private EdgesOfMarkets(Edges edges) {
        e = edges;
        t = edges.checks;
    }

    static void run(Edges edges) {
        EdgesOfMarkets all = new EdgesOfMarkets(edges);
        edges.of("Promise 1: A new object");
        all.newObject();
        edges.of("Promise 2: sign");
        all.sign();
        edges.of("Promise 3: end");
        all.end();
        edges.of("Promise 4: markets");
        all.markets();
        all.badMarkets();
        edges.of("Promise 5: ships");
        all.ships();
        edges.of("Promise 6: rule");
        all.rule();
        edges.of("Promise 7: market");
        all.market();
        edges.of("Promise 8: load");
        all.load();
        edges.of("Promise 9: sheet");
        all.sheet();
        all.sheetWithout();
    }

    private void newObject() {
        e.edge("No MARKETS.", () -> {
            ShellsByLoad x = new ShellsByLoad();
            t.same("count(0)", x.count(0), 0);
            for (int what = 0; what <= 5; what++) {
                final int w = what;
                t.throwsNone("market(0, " + what + ")", () -> x.market(0, w));
            }
            t.same("no MARKET to bring to", x.brings(0, 0, 1), -1);
        });
    }

    private void sign() {
        e.edge("Four signs come behind THE TEXT, of v the highest byte first", () -> {
            ShellsByLoad x = new ShellsByLoad();
            x.sign(0x31323B33);
            x.sign(0x343B3536);
            t.same("12;34;56", x.markets(), 3);
            t.same("the first", x.market(0, 0), 12);
            t.same("over both", x.market(1, 0), 34);
            t.same("the last", x.market(2, 0), 56);
            x.sign(0xB1323B33);
            t.same("a byte above 127 is not the digit 128 below it", x.markets(), -1);
            x.sign(0x31B23B33);
            t.same("nor the second", x.markets(), -2);
        });
        e.edge(": how many it has.", () -> {
            ShellsByLoad x = new ShellsByLoad();
            int[] v = {0, -1, MIN, MAX};
            for (int i = 0; i < v.length; i++) {
                t.same("sign", x.sign(v[i]), 4 * i + 4);
            }
            x.end(5);
            t.same("behind five", x.sign(1), 9);
        });
        e.edge("Refused: there would be more than 80.", () -> {
            ShellsByLoad x = new ShellsByLoad();
            for (int i = 1; i < 20; i++) {
                x.sign(0x6F6F6F6F);
            }
            t.same("80", x.sign(0x6F6F6F6F), 80);
            for (int n = 80; n > 76; n--) {
                x.end(n);
                t.refuses("behind " + n, x, -1, () -> x.sign(0x6F6F6F6F));
            }
            x.end(76);
            t.same("behind 76", x.sign(0x6F6F6F6F), 80);
        });
    }

    private void end() {
        e.edge("THE TEXT has its first n signs alone: true", () -> {
            ShellsByLoad x = new ShellsByLoad();
            t.same("none of none", x.end(0), true);
            x.sign(0x31323B33);
            t.same("all", x.end(4), true);
            t.same("count(12)", x.count(12), 4);
            t.same("two", x.end(2), true);
            t.same("12", x.markets(), 1);
            t.same("12", x.market(0, 0), 12);
            x.sign(0x31323B33);
            t.same("none", x.end(0), true);
            t.same("count(12)", x.count(12), 0);
        });
        e.edge("false if it has not so many", () -> {
            ShellsByLoad x = new ShellsByLoad();
            t.refuses("of none", x, 0, () -> x.end(1) ? 1 : 0);
            x.sign(0x31323B33);
            t.refuses("of four", x, 0, () -> x.end(5) ? 1 : 0, () -> x.end(81) ? 1 : 0, () -> x.end(MAX) ? 1 : 0);
            x.end(2);
            t.refuses("of two", x, 0, () -> x.end(3) ? 1 : 0, () -> x.end(4) ? 1 : 0);
        });
        e.edge("or n is below 0", () -> {
            ShellsByLoad x = new ShellsByLoad();
            t.refuses("of none", x, 0, () -> x.end(-1) ? 1 : 0);
            x.sign(0x31323B33);
            t.refuses("of four", x, 0, () -> x.end(-1) ? 1 : 0, () -> x.end(-4) ? 1 : 0, () -> x.end(MIN) ? 1 : 0);
        });
    }

    private void markets() {
        e.edge("(an empty one: nothing): how many LINES", () -> {
            ShellsByLoad x = new ShellsByLoad();
            t.refuses("of none", x, 0, () -> x.markets());
            t.same("one", Checks.markets(x, "7"), 1);
            t.refuses("of one", x, 0, () -> x.markets());
            t.same("five", Checks.markets(x, "1;2;3;4;5"), 5);
            t.refuses("of six", x, 0, () -> x.markets());
        });
        e.edge("Nothing of it comes, if a LINE can't.", () -> {
            ShellsByLoad x = Checks.coast("1;2;3;4");
            x.port();
            t.refuses("the first could", x, -1 - 2, () -> Checks.markets(x, "5;x"));
            t.refuses("the first could", x, -1 - 3, () -> Checks.markets(x, "5;00"));
            t.refuses("the first could", x, -1 - 2, () -> Checks.markets(x, "5;"));
            t.refuses("two could", x, -1 - 4, () -> Checks.markets(x, "5;6;7"));
        });
    }

    private void badMarket(String had, String text, int p) {
        ShellsByLoad x = Checks.coast(had);
        t.refuses("'" + text + "' behind '" + had + "'", x, -1 - p, () -> Checks.markets(x, text));
    }

    private void badMarkets() {
        e.edge("-1 - p: the sign at p can't stand there", () -> {
            badMarket("", "x", 0);
            badMarket("", ";1", 0);
            badMarket("", "-1", 0);
            badMarket("", "1x", 1);
            badMarket("", "12 ;3", 2);
            badMarket("", "123", 2);
            badMarket("", "12;;3", 3);
            badMarket("", ":", 0);
            badMarket("", "/", 0);
            badMarket("", "5:", 1);
            badMarket("", "5/", 1);
            badMarket("", "5<6", 1);
            badMarket("", "1;2;3;4;5;6x", 11);
            badMarket("", "10;20;30;40;50;6x", 16);
            badMarket("", "10;20;30;40;50;6xx", 16);
        });
        e.edge("its end, if it ends too early", () -> {
            badMarket("", "1;", 2);
            badMarket("1;2;3", "12;34;", 6);
            badMarket("", "1;2;3;4;5;", 10);
            badMarket("", "10;20;30;40;50;", 15);
        });
        e.edge("GOODS 0: at its last digit", () -> {
            badMarket("", "0", 0);
            badMarket("", "00", 1);
            badMarket("", "0;1", 0);
            badMarket("", "00;1", 1);
            badMarket("", "5;0", 2);
            badMarket("", "5;00", 3);
            badMarket("", "10;20;30;40;50;00", 16);
            badMarket("", "10;20;30;40;50;000", 16);
        });
        e.edge("the first sign of a LINE for which there is no room", () -> {
            badMarket("", "1;2;3;4;5;6;7", 12);
            badMarket("", "1;2;3;4;5;6;70;x", 12);
            badMarket("1", "12;23;34;45;56;67", 15);
            badMarket("1;2;3;4;5", "6;7", 2);
            badMarket("1;2;3;4;5", "66;77", 3);
            badMarket("1;2;3;4;5;6", "7", 0);
            badMarket("1;2;3;4;5;6", "77;8", 0);
        });
        e.edge("17, if it has more and the first 17 could go on or end", () -> {
            badMarket("", "10;20;30;40;50;600", 17);
            badMarket("", "10;20;30;40;50;60;", 17);
            badMarket("", "10;20;30;40;50;60x", 17);
            badMarket("", "10;20;30;40;50;6;7", 17);
            badMarket("", "10;20;30;40;50;60" + ";7".repeat(31), 17);
            badMarket("", "10;20;30;40;5x;600", 13);
            t.same("17 alone", Checks.markets(new ShellsByLoad(), "10;20;30;40;50;60"), 6);
        });
    }

    private void badShips(String text, int p) {
        ShellsByLoad x = Checks.coast("5", "o1n2");
        t.refuses("'" + text + "'", x, -1 - p, () -> Checks.ships(x, text));
    }

    private void ships() {
        e.edge("THE TEXT is SHIPS anew: how many LOADS", () -> {
            ShellsByLoad x = new ShellsByLoad();
            t.same("eight", Checks.ships(x, "o1n2.o3n4.o5n6"), 8);
            t.same("one", Checks.ships(x, "n7"), 1);
            t.same("count(1)", x.count(1), 1);
            t.same("load(0, 1)", x.load(0, 1), 70);
            t.throwsNone("load(1, 0)", () -> x.load(1, 0));
        });
        e.edge("-1 - p: the sign at p can't stand there", () -> {
            badShips("x", 0);
            badShips("1", 0);
            badShips("ox", 1);
            badShips("o-1", 1);
            badShips("oo1", 1);
            badShips(".5", 1);
            badShips("o12;n3", 3);
            badShips("o:", 1);
            badShips("o/", 1);
            badShips("m1", 0);
            badShips("p1", 0);
            badShips("-", 0);
            badShips("/", 0);
            badShips("n1234", 4);
            badShips("o123n456o789n000o001n010o100n99x", 31);
            badShips("o123n456o789n000o001n010o100n99x9", 31);
        });
        e.edge("its end for none", () -> badShips("", 0));
        e.edge("or if it ends too early", () -> {
            badShips("o", 1);
            badShips("n", 1);
            badShips("..o12n", 6);
            badShips(".......o", 8);
        });
        e.edge("a ninth LOAD: at its first sign", () -> {
            badShips(".........", 8);
            badShips("o1o2o3o4o5o6o7o8n9", 16);
            badShips("o1o2o3o4o5o6o7o8n", 16);
            badShips("o123n456o789n000o001n010o100.n99", 29);
            badShips("o123n456o789n000o001n010o100n99.", 31);
            badShips("o123n456o789n000o001n010o100n99.9", 31);
        });
        e.edge("32, if it has more and the first 32 could go on or end", () -> {
            badShips("o123n456o789n000o001n010o100n9999", 32);
            badShips("o123n456o789n000o001n010o100n999.", 32);
            badShips("o123n456o789n000o001n010o100n999x", 32);
            badShips("o123n456o789n000o001n010o100n999" + "o".repeat(48), 32);
            badShips("o123n456o789n000o001n010o1000999.", 28);
            t.same("32 alone", Checks.ships(new ShellsByLoad(), "o123n456o789n000o001n010o100n999"), 8);
        });
    }

    private void badRule(String text, int p) {
        ShellsByLoad x = Checks.coast("5", ".", "8");
        t.refuses("'" + text + "'", x, -1 - p, () -> Checks.rule(x, text));
        t.same("a good one behind '" + text + "'", Checks.rule(x, "(3-1)*2<5"), 0);
        t.same("PRICE by the good one", x.market(0, 5), 1);
    }

    private void rule() {
        e.edge("(an empty one: none): 0", () -> {
            ShellsByLoad x = Checks.coast("5", ".", "8");
            x.brings(0, 1, 35);
            t.same("8", x.market(0, 5), 8);
            for (int i = 0; i < 3; i++) {
                t.same("none", x.rule(), 0);
                t.same("35 by 5", x.market(0, 5), 7);
                Checks.rule(x, "9");
                Checks.rule(x, "8+1");
                t.same("9", x.market(0, 5), 9);
            }
        });
        e.edge("THE TEXT is THE RULE", () -> {
            ShellsByLoad x = Checks.coast("5");
            String[] rules = {"--5<6", "7", "2", "-(-(1<2))", "-(-3)=3", "4", "4<5"};
            int[] due = {1, 7, 2, 1, 1, 4, 1};
            for (int i = 0; i < 3 * rules.length; i++) {
                t.same("a rule", Checks.rule(x, rules[i % rules.length]), 0);
                t.same("PRICE", x.market(0, 5), due[i % rules.length]);
            }
        });
        e.edge("-1 - p: the sign at p can't stand there", () -> {
            badRule("x", 0);
            badRule("+5", 0);
            badRule(")", 0);
            badRule("5 ", 1);
            badRule("on", 1);
            badRule("o5", 1);
            badRule("5o", 1);
            badRule("5(6)", 1);
            badRule("(5)6", 3);
            badRule("5)", 1);
            badRule("(5))", 3);
            badRule("5+*6", 2);
            badRule("5*/6", 2);
            badRule("5-<6", 2);
            badRule("5<6>7", 3);
            badRule("5:", 1);
            badRule(":", 0);
            badRule("/5", 0);
            badRule("5;6", 1);
            badRule("5,6", 1);
            badRule("5?6", 1);
            badRule("l", 0);
            badRule("p", 0);
            badRule("i", 0);
            badRule("1234", 3);
            badRule("(((((5)))))", 4);
            badRule("1+".repeat(19) + "1x", 39);
            badRule("1+".repeat(19) + "1x1", 39);
        });
        e.edge("its end, if it ends too early", () -> {
            badRule("-", 1);
            badRule("5+", 2);
            badRule("5<", 2);
            badRule("(", 1);
            badRule("(5", 2);
            badRule("((5)", 4);
            badRule("1+".repeat(20), 40);
            badRule("(" + "1+".repeat(19) + "1", 40);
        });
        e.edge("40, if it has more and the first 40 could go on or end", () -> {
            badRule("1+".repeat(20) + "1", 40);
            badRule("1+".repeat(19) + "234", 40);
            badRule("1+".repeat(19) + "23x", 40);
            badRule("1+".repeat(19) + "23)", 40);
            badRule("((((" + "-".repeat(76), 40);
            badRule("1+".repeat(18) + "1+*+1", 38);
            t.same("40 alone", Checks.rule(new ShellsByLoad(), "1+".repeat(19) + "23"), 0);
        });
    }

    private void market() {
        e.edge("what 0: GOODS, 1: OLD, 2: NEW, 3: OLD LAID BY, 4: NEW LAID BY, 5: PRICE", () -> {
            ShellsByLoad x = Checks.coast("1;2;3;4;5;6");
            x.brings(5, 0, 40);
            x.brings(5, 1, 60);
            x.lays(5, 0, 3);
            x.lays(5, 1, 4);
            int[] due = {6, 37, 56, 3, 4, (74 + 56) / 6};
            for (int what = 0; what <= 5; what++) {
                t.same("of the last", x.market(5, what), due[what]);
                t.same("of the first", x.market(0, what), what == 0 ? 1 : 0);
            }
        });
        e.edge("NoSuchElementException: none such,", () -> {
            ShellsByLoad x = Checks.coast("1;2;3");
            for (int market : new int[] {3, 4, 5, 6, -1, MIN, MAX}) {
                for (int what = 0; what <= 5; what++) {
                    final int w = what;
                    t.refuses("market(" + market + ", " + what + ")", x, Checks.THROWS,
                            () -> Checks.caught(() -> x.market(market, w)));
                }
            }
            Checks.markets(x, "4;5;6");
            t.throwsNone("behind the sixth", () -> x.market(6, 0));
        });
        e.edge("another what.", () -> {
            ShellsByLoad x = Checks.coast("1;2;3");
            for (int what : new int[] {6, 7, -1, MIN, MAX}) {
                t.refuses("market(0, " + what + ")", x, Checks.THROWS, () -> Checks.caught(() -> x.market(0, what)));
            }
        });
    }

    private void load() {
        e.edge("what 0: 0 OLD, 1 NEW, NONE nothing; 1: how many shells.", () -> {
            ShellsByLoad x = Checks.coast("5", "o1n2.o0n0..n999");
            int[][] due = {{0, 10}, {1, 20}, {-1, 0}, {0, 0}, {1, 0}, {-1, 0}, {-1, 0}, {1, 9990}};
            for (int i = 0; i < 8; i++) {
                t.same("kind of " + i, x.load(i, 0), due[i][0]);
                t.same("shells of " + i, x.load(i, 1), due[i][1]);
            }
        });
        e.edge("NoSuchElementException: likewise.", () -> {
            ShellsByLoad x = Checks.coast("5", "o1n2.o0n0..n999");
            int[][] others = {{8, 0}, {8, 1}, {-1, 0}, {-1, 1}, {MIN, 0}, {MAX, 1}, {0, 2}, {0, -1}, {7, MIN}, {7, MAX}};
            for (int[] o : others) {
                t.refuses("load(" + o[0] + ", " + o[1] + ")", x, Checks.THROWS,
                        () -> Checks.caught(() -> x.load(o[0], o[1])));
            }
            Checks.ships(x, "o1n2");
            t.throwsNone("one of those that were", () -> x.load(2, 0));
        });
    }

    private void goods(ShellsByLoad x, int... due) {
        for (int i = 0; i < due.length; i++) {
            t.same("GOODS of " + i, x.market(i, 0), due[i]);
        }
    }

    private void sheet() {
        e.edge("MARKETS 0, 1, .., as a sheet tells them: bytes (kind 0), shorts (1), ints (2) of n entries f, f + step, ..", () -> {
            for (int kind = 0; kind <= 2; kind++) {
                ShellsByLoad x = Checks.coast("1;2;3;4;5;6");
                t.same("six", x.sheet(kind, 6, 10, 7), 6 * 10 + 15 * 7);
                goods(x, 10, 17, 24, 31, 38, 45);
                t.same("one", x.sheet(kind, 1, 50, 7), 55);
                goods(x, 50, 1, 1, 1, 1, 1);
            }
        });
        e.edge("(of bytes, shorts the lowest bits, with their sign;", () -> {
            ShellsByLoad x = Checks.coast("1;1;1");
            t.same("127, 128, 129 as bytes", x.sheet(0, 3, 127, 1), 101);
            goods(x, 99, 1, 1);
            t.same("256 + 7, -256 + 8, -768 + 9", x.sheet(0, 3, 263, -511), 7 + 8 + 9);
            goods(x, 7, 8, 9);
            t.same("32767, 32768, 32769 as shorts", x.sheet(1, 3, 32767, 1), 101);
            goods(x, 99, 1, 1);
            t.same("65536 + 7, ..", x.sheet(1, 3, 65543, 65537), 7 + 8 + 9);
            goods(x, 7, 8, 9);
            t.same("as ints they are not cut", x.sheet(2, 3, 263, 65536), 297);
            t.same("ints go round", x.sheet(2, 3, MAX, 1), 99 + 1 + 1);
            t.same("ints go round", x.sheet(2, 3, MIN, -1), 1 + 99 + 99);
        });
        e.edge("put to 1 .. 99)", () -> {
            for (int kind = 0; kind <= 2; kind++) {
                ShellsByLoad x = Checks.coast("1;1;1;1");
                t.same("from below", x.sheet(kind, 4, -1, 1), 1 + 1 + 1 + 2);
                goods(x, 1, 1, 1, 2);
                t.same("to above", x.sheet(kind, 4, 97, 1), 97 + 98 + 99 + 99);
                goods(x, 97, 98, 99, 99);
            }
        });
    }

    private void sheetWithout() {
        e.edge("or a missing one (3)", () -> {
            ShellsByLoad x = Checks.coast("7;8;9");
            t.same("missing", x.sheet(3, 3, 50, 1), -3);
        });
        e.edge("those behind it have 1: the sum of all.", () -> {
            ShellsByLoad x = Checks.coast("7;8;9");
            t.same("two of three", x.sheet(2, 2, 50, 1), 50 + 51 + 1);
            goods(x, 50, 51, 1);
            t.same("none of three", x.sheet(2, 0, 50, 1), 3);
            goods(x, 1, 1, 1);
            t.same("more than MARKETS", x.sheet(2, 6, 50, 1), 50 + 51 + 52);
            t.same("the next MARKET has its own", Checks.markets(x, "7"), 1);
            goods(x, 50, 51, 52, 7);
            t.same("of none", new ShellsByLoad().sheet(2, 6, 50, 1), 0);
        });
        e.edge("-2: n below 0 (of kinds 0 .. 2; nothing changes)", () -> {
            ShellsByLoad x = Checks.coast("7;8;9");
            for (int kind = 0; kind <= 2; kind++) {
                final int k = kind;
                t.refuses("kind " + kind, x, -2, () -> x.sheet(k, -1, 5, 5), () -> x.sheet(k, MIN, 5, 5));
            }
            t.same("of kind 3 it is missing", x.sheet(3, -1, 5, 5), -3);
        });
        e.edge("-3: missing (all 1)", () -> {
            ShellsByLoad x = Checks.coast("7;8;9");
            x.sheet(3, 3, 50, 1);
            goods(x, 1, 1, 1);
            x.sheet(2, 3, 7, 1);
            x.sheet(3, -1, 50, 1);
            goods(x, 1, 1, 1);
            t.same("of none", new ShellsByLoad().sheet(3, 0, 0, 0), -3);
        });
        e.edge("NONE: another kind,", () -> {
            ShellsByLoad x = Checks.coast("7;8;9");
            t.refuses("another kind", x, -1, () -> x.sheet(4, 2, 5, 5), () -> x.sheet(-1, 2, 5, 5),
                    () -> x.sheet(MAX, 2, 5, 5), () -> x.sheet(MIN, 2, 5, 5));
        });
        e.edge("n above 6 (these first).", () -> {
            ShellsByLoad x = Checks.coast("7;8;9");
            t.refuses("n above 6", x, -1, () -> x.sheet(0, 7, 5, 5), () -> x.sheet(1, 7, 5, 5),
                    () -> x.sheet(2, MAX, 5, 5));
            t.refuses("these ahead of a missing one", x, -1, () -> x.sheet(3, 7, 5, 5), () -> x.sheet(3, MAX, 5, 5));
            t.refuses("these ahead of n below 0", x, -1, () -> x.sheet(4, -1, 5, 5), () -> x.sheet(-1, MIN, 5, 5));
            t.same("6 is not above it", x.sheet(0, 6, 5, 5), 5 + 10 + 15);
        });
    }
}
