/** Promises 1 to 9: a new object, THE TEXT, markets, ships, the rule. */
public final class MarketsTest {
    private static final Checks T = new Checks();

    public static void main(String[] args) {
        T.test("1 a new object", MarketsTest::newObject);
        T.test("2 sign", MarketsTest::sign);
        T.test("3 end", MarketsTest::end);
        T.test("4 markets", MarketsTest::markets);
        T.test("4 markets: bad signs", MarketsTest::badMarkets);
        T.test("5 ships", MarketsTest::ships);
        T.test("5 ships: bad signs", MarketsTest::badShips);
        T.test("6 rule", MarketsTest::rule);
        T.test("6 rule: bad signs", MarketsTest::badRules);
        T.test("6 rule: letters and bounds", MarketsTest::letters);
        T.test("7 market", MarketsTest::market);
        T.test("8 load", MarketsTest::load);
        T.test("9 sheet", MarketsTest::sheet);
        T.finish();
    }

    private static void newObject() {
        ShellsByLoad x = new ShellsByLoad();
        int[] due = {0, 1, 0, 2, 0, 0, 0, 0, 0, 0, 0, 0, 0};
        for (int what = 0; what < due.length; what++) {
            T.same("count(" + what + ")", x.count(what), due[what]);
        }
        T.same("NONE", ShellsByLoad.NONE, -1);
        T.throwsNone("market(0, 0)", () -> x.market(0, 0));
        T.same("load(0, 0)", x.load(0, 0), -1);
        T.same("load(0, 1)", x.load(0, 1), 0);
        T.throwsNone("row(0)", () -> x.row(0));
        T.same("again(0)", x.again(0), false);
        T.same("undo()", x.undo(), -1);
    }

    private static void sign() {
        ShellsByLoad x = new ShellsByLoad();
        T.same("sign", x.sign(0x31303B32), 4);
        T.same("markets()", x.markets(), 2);
        T.same("GOODS of 0", x.market(0, 0), 10);
        T.same("GOODS of 1", x.market(1, 0), 2);
        T.same("sign of -1", x.sign(-1), 4);
        T.same("sign of 0", x.sign(0), 8);
        T.same("signs above 127 are no digits", x.markets(), -1);
        for (int i = 1; i <= 20; i++) {
            T.same("sign", x.sign(0x31313131), 4 * i);
        }
        T.refuses("a 21st", x, -1, () -> x.sign(0x31313131), () -> x.sign(0));
        for (int n = 77; n <= 79; n++) {
            x.end(77);
            T.refuses("behind 77", x, -1, () -> x.sign(7));
        }
        x.end(76);
        T.same("behind 76", x.sign(7), 80);
    }

    private static void end() {
        ShellsByLoad x = new ShellsByLoad();
        T.same("end(0) of none", x.end(0), true);
        T.refuses("end(1) of none", x, 0, () -> x.end(1) ? 1 : 0);
        x.sign(0x35363738);
        x.sign(0x35363738);
        T.refuses("not so many", x, 0, () -> x.end(9) ? 1 : 0, () -> x.end(-1) ? 1 : 0,
                () -> x.end(Integer.MIN_VALUE) ? 1 : 0, () -> x.end(Integer.MAX_VALUE) ? 1 : 0);
        T.same("end(8)", x.end(8), true);
        T.same("count(12)", x.count(12), 8);
        T.same("end(1)", x.end(1), true);
        T.same("count(12)", x.count(12), 1);
        T.same("what comes next comes behind it", x.sign(0x3B393B31), 5);
        T.same("markets()", x.markets(), 3);
        T.same("GOODS of 0", x.market(0, 0), 5);
        T.same("GOODS of 1", x.market(1, 0), 9);
        T.same("the text is empty then", x.count(12), 0);
    }

    private static void markets() {
        ShellsByLoad x = new ShellsByLoad();
        T.same("an empty one", x.markets(), 0);
        T.same("3 lines", Checks.markets(x, "1;99;07"), 3);
        T.same("count(0)", x.count(0), 3);
        T.same("the text is empty then", x.count(12), 0);
        int[] due = {1, 99, 7};
        for (int i = 0; i < 3; i++) {
            T.same("GOODS", x.market(i, 0), due[i]);
            for (int what = 1; what <= 5; what++) {
                T.same("market(" + i + ", " + what + ")", x.market(i, what), 0);
            }
        }
        T.same("2 more", Checks.markets(x, "12;34"), 2);
        T.same("count(0)", x.count(0), 5);
        T.same("GOODS of 2 stays", x.market(2, 0), 7);
        T.same("GOODS of 4", x.market(4, 0), 34);
        x.brings(4, 1, 77);
        T.same("one more", Checks.markets(x, "56"), 1);
        T.same("NEW of 4 stays", x.market(4, 2), 77);
        T.same("NEW of 5", x.market(5, 2), 0);
        T.same("an empty one of 6", x.markets(), 0);
        T.same("all of 17 signs", Checks.markets(new ShellsByLoad(), "10;20;30;40;50;60"), 6);
    }

    private static void badMarket(String had, String text, int p) {
        ShellsByLoad x = Checks.coast(had);
        x.months(1);
        T.refuses("'" + text + "' behind '" + had + "'", x, -1 - p, () -> {
            Checks.say(x, text);
            return x.markets();
        });
    }

    private static void badMarkets() {
        badMarket("", "x", 0);
        badMarket("", ";", 0);
        badMarket("", "1x", 1);
        badMarket("", "123", 2);
        badMarket("", "1;", 2);
        badMarket("", "12;;3", 3);
        badMarket("", "1; 2", 2);
        badMarket("", "0", 0);
        badMarket("", "00", 1);
        badMarket("", "000", 1);
        badMarket("", "0;1", 0);
        badMarket("", "7;0", 2);
        badMarket("", "7;00;1", 3);
        badMarket("", "-1", 0);
        badMarket("", "1;2;3;4;5;6;7", 12);
        badMarket("", "1;2;3;4;5;6;", 12);
        badMarket("", "1;2;3;4;5;6;x", 12);
        badMarket("1;2;3;4;5;6", "1", 0);
        badMarket("1;2;3;4;5;6", "x", 0);
        badMarket("1;2;3", "9;9;9;9", 6);
        badMarket("1;2;3", "9;9;9;", 6);
        badMarket("1;2;3", "9;9;x;9", 4);
        badMarket("", "10;20;30;40;50;600", 17);
        badMarket("", "10;20;30;40;50;60;", 17);
        badMarket("", "10;20;30;40;50;60x", 17);
        badMarket("", "10;20;30;40;50;6;7", 17);
        badMarket("", "10;20;30;40;50;6;7;", 17);
        badMarket("", "10;20;30;40;50;6xxxxx", 16);
        badMarket("", "10;20;30;40;50;00xxxx", 16);
        badMarket("", "10;20;30;40;5;6;70;", 16);
        badMarket("1", "10;20;30;40;50;60;7", 15);
        ShellsByLoad x = Checks.coast("5");
        T.same("a text of 80", Checks.markets(x, "1;".repeat(40)), -11);
    }

    private static void ships() {
        ShellsByLoad x = new ShellsByLoad();
        T.same("4 loads", Checks.ships(x, "o5.n120o0"), 4);
        T.same("count(1)", x.count(1), 4);
        T.same("the text is empty then", x.count(12), 0);
        int[][] due = {{0, 50}, {-1, 0}, {1, 1200}, {0, 0}};
        for (int i = 0; i < 4; i++) {
            T.same("kind of " + i, x.load(i, 0), due[i][0]);
            T.same("shells of " + i, x.load(i, 1), due[i][1]);
        }
        T.same("anew", Checks.ships(x, "n999"), 1);
        T.same("count(1)", x.count(1), 1);
        T.same("kind", x.load(0, 0), 1);
        T.same("shells", x.load(0, 1), 9990);
        T.same("all of 32 signs", Checks.ships(x, "o123n456o789n000o001n010o100n999"), 8);
        T.same("shells of 4", x.load(4, 1), 10);
        T.same("eight of nothing", Checks.ships(x, "........"), 8);
        T.same("kind of 7", x.load(7, 0), -1);
    }

    private static void badShip(String text, int p) {
        ShellsByLoad x = Checks.coast("5;6", "o1n2");
        T.refuses("'" + text + "'", x, -1 - p, () -> {
            Checks.say(x, text);
            return x.ships();
        });
    }

    private static void badShips() {
        badShip("", 0);
        badShip("x", 0);
        badShip("5", 0);
        badShip("o", 1);
        badShip("n", 1);
        badShip("ox", 1);
        badShip("o1;o2", 2);
        badShip("o1234", 4);
        badShip(".5", 1);
        badShip("o12n", 4);
        badShip("o-1", 1);
        badShip(".........", 8);
        badShip("........x", 8);
        badShip("o1o2o3o4o5o6o7o8o", 16);
        badShip("o123n456o789n000o001n010o100n999.", 32);
        badShip("o123n456o789n000o001n010o100n9999", 32);
        badShip("o123n456o789n000o001n010o100n99x9", 31);
        badShip("o123n456o789n000o001n010o100n99.9", 31);
        badShip("o123n456o789n000o001n010o100n99z", 31);
        badShip(".".repeat(80), 8);
    }

    /** PRICE by a rule at MARKET 1 with 12 OLD, 34 NEW, GOODS 5, LAID BY 3 and 4, MONTH 14. */
    private static int priceBy(String rule) {
        ShellsByLoad x = new ShellsByLoad();
        Checks.markets(x, "9;5");
        x.months(14);
        x.brings(1, 0, 15);
        x.brings(1, 1, 38);
        x.lays(1, 0, 3);
        x.lays(1, 1, 4);
        T.same("rule '" + rule + "'", Checks.rule(x, rule), 0);
        T.same("the text is empty then", x.count(12), 0);
        return x.market(1, 5);
    }

    private static void price(String rule, int due) {
        T.same("PRICE by '" + rule + "'", priceBy(rule), due);
    }

    private static void rule() {
        price("", (12 * 2 + 34) / 5);
        price("(o*2+n)/g", (12 * 2 + 34) / 5);
        price("2+3*4", 14);
        price("2*3+4", 10);
        price("20-5-3", 12);
        price("100/7/2", 7);
        price("100/7*2", 28);
        price("2*(3+4)", 14);
        price("7-9+5", 3);
        price("5/0+1", 1);
        price("0-7/2+9", 6);
        price("(0-7)/2+9", 6);
        price("7/-2+9", 6);
        price("--5", 5);
        price("---5+9", 4);
        price("3--5", 8);
        price("3*-5+20", 5);
        price("-3*-5", 15);
        price("-(3-8)", 5);
        price("3<4", 1);
        price("4<4", 0);
        price("4>3", 1);
        price("3>3", 0);
        price("3=3", 1);
        price("3=4", 0);
        price("1+1<3", 1);
        price("3>1+1", 1);
        price("5+(3<4)*10", 15);
        price("(1<2)=1", 1);
        price("2<(5=5)", 0);
        price("1<2+(3>2)", 1);
        price("((((7))))", 7);
        price("(1)+(2)*((3))", 7);
        price("-5", 0);
        price("999*999", 99999);
        price("100*999+99", 99999);
        price("100*999+98", 99998);
        price("999*999*999*999", wrapped());
        price("007", 7);
        price("000", 0);
        price("-2-(-2)*(0-1)*5+20", 8);
        price("1=1+1", 0);
        price("2=1+1", 1);
        price("2-1=1", 1);
        price("5+(3<2)", 5);
        price("5+(2>3)", 5);
        price("5+(2=3)", 5);
        price("5-(2<3)", 4);
        price("-(512*512*512*16)/2", 0);
        price("(512*512*512*16)/-1", 0);
        price("0-1-(512*512*512*16)", 99999);
        price("--(512*512*512*16)<0", 1);
    }

    private static int wrapped() {
        int v = 999 * 999 * 999 * 999;
        return Math.max(0, Math.min(99999, v));
    }

    private static void letters() {
        price("o", 12);
        price("n", 34);
        price("g", 5);
        price("d", 1);
        price("m", 2);
        price("h", 7);
        price("o+n*g-d+m*h", 12 + 34 * 5 - 1 + 14);
        ShellsByLoad x = Checks.coast("3;4;5", ".", "m*10+d");
        for (int month = 0; month <= 25; month++) {
            T.same("m", x.market(2, 5), month % 12 * 10 + 2);
            T.same("d", x.market(0, 5), month % 12 * 10);
            x.months(1);
        }
        T.same("back to none", Checks.rule(x, ""), 0);
        x.brings(0, 0, 7);
        T.same("PRICE", x.market(0, 5), 4);
        Checks.rule(x, "o*999*999*999");
        x.brings(0, 0, 3);
        T.same("as ints", x.market(0, 5), Math.max(0, Math.min(99999, 10 * 999 * 999 * 999)));
        Checks.rule(x, "-(0-99*999*999*999)");
        T.same("as ints", x.market(0, 5), Math.max(0, Math.min(99999, 99 * 999 * 999 * 999)));
    }

    private static void badRule(String text, int p) {
        ShellsByLoad x = Checks.coast("5;6", "o1n2", "o+n+7");
        T.refuses("'" + text + "'", x, -1 - p, () -> {
            Checks.say(x, text);
            return x.rule();
        });
        T.refuses("law of '" + text + "'", x, -1000000 - p, () -> {
            Checks.say(x, text);
            return x.law();
        });
    }

    private static void badRules() {
        badRule("x", 0);
        badRule("+", 0);
        badRule("-", 1);
        badRule("o+", 2);
        badRule("o n", 1);
        badRule("on", 1);
        badRule("o1", 1);
        badRule("1o", 1);
        badRule("1234", 3);
        badRule("o+*n", 2);
        badRule("()", 1);
        badRule("(o", 2);
        badRule("(o+", 3);
        badRule("o)", 1);
        badRule("(o))", 3);
        badRule("(o)n", 3);
        badRule("(o)(n)", 3);
        badRule("o(n)", 1);
        badRule("1<2<3", 3);
        badRule("1<2=3", 3);
        badRule("1+1>2*3=3", 7);
        badRule("(1<2>3)", 4);
        badRule("1<(2)<3", 5);
        badRule("1<<2", 2);
        badRule("1==2", 2);
        badRule("(((((1)))))", 4);
        badRule("(1)+((((1))))+(((((1)))))", 18);
        badRule("O", 0);
        badRule("o+" + (char) 233, 2);
        badRule("o".concat("+o".repeat(20)), 40);
        badRule("1+".repeat(20) + "1", 40);
        badRule("1+".repeat(20), 40);
        badRule("((1+" + "1+".repeat(20), 40);
        badRule("1+".repeat(19) + "1x1", 39);
        badRule("1+".repeat(19) + "11x", 40);
        badRule("1+".repeat(19) + "*11", 38);
        badRule("-".repeat(80), 40);
        badRule("-".repeat(40), 40);
        ShellsByLoad x = Checks.coast("5");
        T.same("40 signs", Checks.rule(x, "1+".repeat(19) + "11"), 0);
        T.same("PRICE", x.market(0, 5), 30);
        T.same("39 minuses", Checks.rule(x, "-".repeat(39) + "7"), 0);
        T.same("PRICE", x.market(0, 5), 0);
        T.same("38 minuses", Checks.rule(x, "-".repeat(38) + "77"), 0);
        T.same("PRICE", x.market(0, 5), 77);
        String[] broken = {"-", "--(", "1+(", "((-(", "1<", "1*2<-(3+"};
        for (String one : broken) {
            T.same("a broken rule", Checks.rule(x, one), -1 - one.length());
            T.same("PRICE", x.market(0, 5), 77);
            T.same("a good one behind it", Checks.rule(x, "80-3"), 0);
            T.same("PRICE", x.market(0, 5), 77);
        }
        T.same("a bad law leaves the rule", Checks.law(x, "9+"), -1000002);
        T.same("PRICE", x.market(0, 5), 77);
    }

    private static void market() {
        ShellsByLoad x = Checks.coast("12;34");
        x.brings(1, 0, 900);
        x.brings(1, 1, 800);
        x.lays(1, 0, 70);
        x.lays(1, 1, 60);
        int[] due = {34, 830, 740, 70, 60, (830 * 2 + 740) / 34};
        for (int what = 0; what < 6; what++) {
            T.same("market(1, " + what + ")", x.market(1, what), due[what]);
            T.same("market(0, " + what + ")", x.market(0, what), what == 0 ? 12 : 0);
            final int w = what;
            T.throwsNone("market(2, " + what + ")", () -> x.market(2, w));
            T.throwsNone("market(-1, " + what + ")", () -> x.market(-1, w));
            T.throwsNone("market(6, " + what + ")", () -> x.market(6, w));
        }
        T.throwsNone("market(0, 6)", () -> x.market(0, 6));
        T.throwsNone("market(0, -1)", () -> x.market(0, -1));
        T.throwsNone("far off", () -> x.market(Integer.MAX_VALUE, Integer.MIN_VALUE));
        T.refuses("it changes nothing", x, Checks.THROWS, () -> Checks.caught(() -> x.market(7, 7)));
    }

    private static void load() {
        ShellsByLoad x = Checks.coast("5", "o7n8.");
        T.same("load(0, 0)", x.load(0, 0), 0);
        T.same("load(0, 1)", x.load(0, 1), 70);
        T.same("load(1, 0)", x.load(1, 0), 1);
        T.same("load(1, 1)", x.load(1, 1), 80);
        T.same("load(2, 0)", x.load(2, 0), -1);
        T.same("load(2, 1)", x.load(2, 1), 0);
        T.throwsNone("load(3, 0)", () -> x.load(3, 0));
        T.throwsNone("load(-1, 0)", () -> x.load(-1, 0));
        T.throwsNone("load(8, 1)", () -> x.load(8, 1));
        T.throwsNone("load(0, 2)", () -> x.load(0, 2));
        T.throwsNone("load(0, -1)", () -> x.load(0, -1));
    }

    private static void goods(ShellsByLoad x, int... due) {
        for (int i = 0; i < due.length; i++) {
            T.same("GOODS of " + i, x.market(i, 0), due[i]);
        }
    }

    private static void sheet() {
        ShellsByLoad x = Checks.coast("11;12;13;14");
        T.refuses("NONE", x, -1, () -> x.sheet(4, 2, 5, 5), () -> x.sheet(-1, 2, 5, 5),
                () -> x.sheet(0, 7, 5, 5), () -> x.sheet(3, 7, 5, 5), () -> x.sheet(4, -1, 5, 5),
                () -> x.sheet(-1, -1, 5, 5), () -> x.sheet(2, Integer.MAX_VALUE, 5, 5));
        T.refuses("n below 0", x, -2, () -> x.sheet(0, -1, 5, 5), () -> x.sheet(1, -1, 5, 5),
                () -> x.sheet(2, Integer.MIN_VALUE, 5, 5));
        T.same("fewer", x.sheet(2, 2, 20, 7), 20 + 27 + 1 + 1);
        goods(x, 20, 27, 1, 1);
        T.same("as many", x.sheet(2, 4, 97, 1), 97 + 98 + 99 + 99);
        goods(x, 97, 98, 99, 99);
        T.same("more", x.sheet(2, 6, 5, -2), 5 + 3 + 1 + 1);
        goods(x, 5, 3, 1, 1);
        T.same("bytes", x.sheet(0, 4, 126, 1), 99 + 99 + 1 + 1);
        goods(x, 99, 99, 1, 1);
        T.same("bytes", x.sheet(0, 4, 256 + 40, 256 + 10), 40 + 50 + 60 + 70);
        goods(x, 40, 50, 60, 70);
        T.same("shorts", x.sheet(1, 4, 32767, 1), 99 + 1 + 1 + 1);
        goods(x, 99, 1, 1, 1);
        T.same("shorts", x.sheet(1, 3, 65536 * 3 + 8, 65536 + 1), 8 + 9 + 10 + 1);
        goods(x, 8, 9, 10, 1);
        T.same("ints", x.sheet(2, 4, 296, 256), 99 * 4);
        T.same("ints", x.sheet(2, 4, Integer.MAX_VALUE, 1), 99 + 1 + 1 + 1);
        goods(x, 99, 1, 1, 1);
        T.same("ints round", x.sheet(2, 3, 30, Integer.MIN_VALUE), 30 + 1 + 30 + 1);
        goods(x, 30, 1, 30, 1);
        T.same("none", x.sheet(0, 0, 50, 1), 4);
        goods(x, 1, 1, 1, 1);
        x.sheet(2, 4, 50, 1);
        T.same("missing", x.sheet(3, 2, 50, 1), -3);
        goods(x, 1, 1, 1, 1);
        x.sheet(2, 4, 50, 1);
        T.same("missing, n below 0", x.sheet(3, -5, 50, 1), -3);
        goods(x, 1, 1, 1, 1);
        x.months(1);
        x.sheet(2, 4, 60, 1);
        T.same("undo() leaves GOODS", x.undo(), 0);
        goods(x, 60, 61, 62, 63);
        T.same("six without MARKETS", new ShellsByLoad().sheet(2, 6, 5, 5), 0);
    }
}
