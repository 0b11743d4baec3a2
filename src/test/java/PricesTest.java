/** Promises 20 to 31: prices to come, and what follows from them. */
public final class PricesTest {
    private static final Checks T = new Checks();

    public static void main(String[] args) {
        T.test("20 ahead", PricesTest::ahead);
        T.test("21 doubles", PricesTest::doubles);
        T.test("22 trade", PricesTest::trade);
        T.test("23 buys", PricesTest::buys);
        T.test("24 best", PricesTest::best);
        T.test("25 closes", PricesTest::closes);
        T.test("26 grows", PricesTest::grows);
        T.test("27 reign", PricesTest::reign);
        T.test("28 melts", PricesTest::melts);
        T.test("29 when", PricesTest::when);
        T.test("30 rises", PricesTest::rises);
        T.test("31 caravan", PricesTest::caravan);
        T.test("20 to 31 change nothing", PricesTest::questionsChangeNothing);
        T.finish();
    }

    private static void ahead() {
        ShellsByLoad x = Checks.coast("10;5;2", "o100n50.");
        x.brings(2, 1, 9);
        T.told("now", x, x.ahead(2, 0), 4, 0, 9);
        T.told("in 1", x, x.ahead(0, 1), 160, 800, 0);
        T.told("in 2", x, x.ahead(0, 2), 168, 640, 400);
        T.told("in 2", x, x.ahead(1, 2), 148, 320, 100);
        T.told("in 2", x, x.ahead(2, 2), (80 + 9) / 2, 40, 9);
        T.refuses("others", x, -1, () -> x.ahead(3, 1), () -> x.ahead(-1, 1), () -> x.ahead(0, -1),
                () -> x.ahead(0, 100), () -> x.ahead(6, 0), () -> x.ahead(0, Integer.MAX_VALUE));
        ShellsByLoad y = Checks.coast("10", "o1");
        T.told("in 99", y, y.ahead(0, 99), 198, 990, 0);
        y.port();
        T.told("closed", y, y.ahead(0, 99), 0, 0, 0);
        Checks.rule(y, "m");
        y.months(1);
        T.told("its MONTH", y, y.ahead(0, 15), 4, 0, 0);
    }

    private static void doubles() {
        ShellsByLoad x = Checks.coast("10;5", ".", "m+d*7");
        T.told("of 0", x, x.doubles(0), 1, 1);
        T.told("of 7", x, x.doubles(1), 7, 14);
        x.months(3);
        T.told("of 3", x, x.doubles(0), 3, 6);
        T.refuses("of 10", x, -2, () -> x.doubles(1));
        T.refuses("none such", x, -1, () -> x.doubles(2), () -> x.doubles(-1), () -> x.doubles(6));
        Checks.rule(x, "3+(m=7)*4");
        T.told("more than twice", x, x.doubles(0), 4, 7);
        Checks.rule(x, "0");
        T.refuses("of 0", x, -2, () -> x.doubles(0));
        ShellsByLoad slow = Checks.coast("10", "o1", "o");
        slow.brings(0, 0, 990);
        T.told("in 99", slow, slow.doubles(0), 99, 1980);
        slow.brings(0, 0, 1);
        T.refuses("in 100", slow, -2, () -> slow.doubles(0));
    }

    private static void trade() {
        ShellsByLoad x = Checks.coast("1;1;1", ".", "(d=0)*10+(d=1)*25+(d=2)*7+m");
        T.told("100", x, x.trade(100), 366, 2, 1);
        T.told("6 buy nothing", x, x.trade(6), 6, 0, 1);
        T.told("9", x, x.trade(9), 28, 2, 1);
        T.told("60", x, x.trade(60), 212, 2, 1);
        Checks.rule(x, "(d=0)*10+(d=1)*9+(d=2)*9+m*5");
        T.told("two months on", x, x.trade(90), 200, 2, 0);
        T.refuses("another v", x, -1, () -> x.trade(0), () -> x.trade(-1), () -> x.trade(10000),
                () -> x.trade(Integer.MIN_VALUE));
        Checks.rule(x, "5");
        T.told("all the same", x, x.trade(100), 100, 0, 1);
        Checks.rule(x, "0");
        T.told("none bought at 0", x, x.trade(100), 100, 0, 1);
        Checks.rule(x, "20-m*15");
        T.told("all lose", x, x.trade(107), 32, 0, 1);
        Checks.rule(x, "(d=1)*999*999+(d=0)+(d=2)*2");
        T.told("the most", x, x.trade(9999), 999890001, 0, 1);
        Checks.rule(x, "(d=1)*999*999+(d=2)");
        T.told("a PRICE of 0 gives none", x, x.trade(9999), 999890001, 2, 1);
        ShellsByLoad two = Checks.coast("1;1", ".", "(d=0)*9+(d=1)*4+m");
        T.told("two MARKETS", two, two.trade(30), 72, 1, 0);
        ShellsByLoad six = Checks.coast("1;1;1;1;1;1", ".", "9-d+m*d");
        T.told("five months apart", six, six.trade(9), 9 / 9 * (4 + 25), 0, 5);
        T.told("five months apart", six, six.trade(18), 2 * 29, 0, 5);
        T.told("three months apart", six, six.trade(36), 9 * 13, 5, 2);
        ShellsByLoad one = Checks.coast("5", "o9");
        one.ahead(0, 1);
        T.told("one MARKET", one, one.trade(9999), 9999);
        T.refuses("another v", one, -1, () -> one.trade(0));
        T.told("none", new ShellsByLoad(), new ShellsByLoad().trade(1), 1);
    }

    private static void buys() {
        ShellsByLoad x = Checks.coast("10;20", ".", "o+n*3+g+d*100+m+h*5");
        x.months(4);
        x.flow(0);
        x.brings(1, 0, 30);
        x.brings(1, 1, 12);
        x.lays(1, 1, 2);
        int now = 30 + 30 + 20 + 100 + 4 + 10;
        T.same("counted", x.buys(0, 1, 9000, 0), 9000 / now);
        T.same("fixed long ago", x.buys(1, 1, 9000, 60), 9000 / 120);
        T.same("by weight", x.buys(2, 1, 9000, 0), 9000 / (now / 2));
        T.same("to come", x.buys(3, 1, 9000, 7), 9000 / (now + 7));
        T.same("to come, now", x.buys(3, 1, 9000, 0), 9000 / now);
        T.same("to come", x.buys(3, 1, 9000, 60), 9000 / now);
        T.same("broken", x.buys(4, 1, 9001, 0), 4500 / now);
        x.sheet(2, 2, 33, 1);
        T.same("with what is GOODS now", x.buys(1, 1, 9000, 0), 9000 / 134);
        Checks.rule(x, "o*9+n*9+g+m*9+h*9");
        T.same("no shells, MONTH 0, nothing LAID BY", x.buys(1, 0, 9999, 0), 9999 / 33);
        Checks.rule(x, "50-m*9");
        T.same("MONTH 0", x.buys(1, 0, 9999, 0), 9999 / 50);
        T.same("MONTH 4", x.buys(0, 0, 9999, 0), 9999 / 14);
        for (int kind = 0; kind <= 4; kind++) {
            T.same("none", x.buys(kind, 0, 0, 0), 0);
        }
        Checks.rule(x, "0");
        for (int kind = 0; kind <= 4; kind++) {
            T.same("by 0", x.buys(kind, 0, 0, 5), 9999);
            T.same("by 0", x.buys(kind, 0, 9999, 5), 9999);
        }
        Checks.rule(x, "1");
        T.same("half of 1 is 0", x.buys(2, 0, 5, 0), 9999);
        T.same("half of 5", x.buys(4, 0, 5, 0), 2);
        T.refuses("others", x, -1, () -> x.buys(-1, 0, 5, 0), () -> x.buys(5, 0, 5, 0), () -> x.buys(0, 2, 5, 0),
                () -> x.buys(0, -1, 5, 0), () -> x.buys(0, 0, -1, 0), () -> x.buys(0, 0, 10000, 0),
                () -> x.buys(0, 0, 5, -1), () -> x.buys(0, 0, 5, 61), () -> x.buys(3, 0, 5, 61));
    }

    private static void best() {
        ShellsByLoad x = Checks.coast("10;20", ".", "5");
        T.told("by weight", x, x.best(1, 100, 0), 2, 50);
        Checks.rule(x, "0");
        T.told("all the same", x, x.best(1, 100, 0), 0, 9999);
        T.told("none by 0", x, x.best(1, 0, 60), 0, 9999);
        Checks.rule(x, "7");
        T.told("none", x, x.best(0, 0, 0), 0, 0);
        Checks.rule(x, "100-m*9");
        T.told("to come", x, x.best(0, 100, 11), 3, 100);
        T.told("to come, not yet", x, x.best(0, 100, 5), 2, 2);
        T.told("to come, gone by", x, x.best(0, 100, 12), 2, 2);
        Checks.rule(x, "o+10");
        x.brings(0, 0, 90);
        T.told("fixed long ago", x, x.best(0, 100, 0), 1, 10);
        x.taxes(0, 9);
        x.taxes(0, 9);
        T.told("ten yet", x, x.best(0, 99, 0), 2, 19);
        T.refuses("others", x, -1, () -> x.best(2, 5, 0), () -> x.best(-1, 5, 0), () -> x.best(0, -1, 0),
                () -> x.best(0, 10000, 0), () -> x.best(0, 5, -1), () -> x.best(0, 5, 61));
    }

    private static void closes() {
        ShellsByLoad x = Checks.coast("10", "o10");
        T.told("one of three", x, x.closes(0, 3, 1), 40, 1);
        T.told("none", x, x.closes(0, 3, 0), 60, 0);
        T.told("two of three", x, x.closes(0, 3, 2), 20, 3);
        T.told("all", x, x.closes(0, 3, 8), 0, 7);
        T.told("all of 8", x, x.closes(0, 8, 8), 0, 255);
        T.told("one of one", x, x.closes(0, 1, 1), 0, 1);
        x.port();
        T.told("closed now, open in all others", x, x.closes(0, 3, 1), 40, 1);
        Checks.ships(x, "o1o5o3");
        T.told("the greatest", x, x.closes(0, 3, 1), 8, 2);
        T.told("the two greatest", x, x.closes(0, 3, 2), 2, 6);
        Checks.rule(x, "500-o");
        T.told("better open", x, x.closes(0, 3, 3), 410, 0);
        Checks.rule(x, "o>20");
        Checks.ships(x, "o1o1o2");
        T.told("the fewest", x, x.closes(0, 3, 2), 0, 4);
        T.told("none would do", x, x.closes(0, 2, 2), 0, 0);
        Checks.rule(x, "o");
        T.told("the least", x, x.closes(0, 2, 1), 10, 1);
        T.refuses("others", x, -1, () -> x.closes(1, 3, 1), () -> x.closes(-1, 3, 1), () -> x.closes(0, 0, 1),
                () -> x.closes(0, 9, 1), () -> x.closes(0, 3, -1), () -> x.closes(0, 3, 9), () -> x.closes(0, -1, 0));
        ShellsByLoad y = Checks.coast("1;1", "o10");
        y.brings(1, 0, 9);
        T.told("inland", y, y.closes(1, 1, 1), 18, 1);
        Checks.rule(y, "o+m");
        T.told("inland, its MONTH", y, y.closes(1, 2, 2), 11, 3);
    }

    private static void grows() {
        ShellsByLoad x = Checks.coast("1;1;1", ".", "(d=1)*m*3+(d=2)*m*5+10");
        T.told("the most", x, x.grows(2), 2, 10);
        Checks.rule(x, "(d=1)*m*7+(d=2)*m*5+10");
        T.told("the most", x, x.grows(3), 1, 21);
        T.told("round a year", x, x.grows(12), 0, 0);
        T.told("60", x, x.grows(60), 0, 0);
        Checks.rule(x, "m");
        T.told("of equal ones the first", x, x.grows(5), 0, 5);
        Checks.rule(x, "50-m*(3-d)");
        T.told("below 0", x, x.grows(1), 2, -1);
        Checks.rule(x, "50-m*(2-d)*(2-d)-m");
        T.told("below 0", x, x.grows(2), 2, -2);
        T.refuses("another n", x, -1, () -> x.grows(0), () -> x.grows(61), () -> x.grows(-1));
        ShellsByLoad none = new ShellsByLoad();
        T.refuses("another n", none, -1, () -> none.grows(0), () -> none.grows(61));
        T.refuses("no MARKETS", none, -2, () -> none.grows(1), () -> none.grows(60));
    }

    private static void reign() {
        ShellsByLoad x = Checks.coast("10", "o100");
        T.told("both", x, x.reign(2, 5, 0), 1250, 3);
        T.told("both", x, x.reign(2, 5, 150), 1250, 3);
        T.told("the second", x, x.reign(2, 5, 151), 1000, 2);
        T.told("the second", x, x.reign(2, 5, 200), 1000, 2);
        T.told("the first", x, x.reign(2, 5, 201), 500, 1);
        T.told("none", x, x.reign(2, 5, 301), 0, 0);
        T.refuses("by none", x, -2, () -> x.reign(2, 5, 401), () -> x.reign(1, 1, 99999));
        T.told("the last four do as well as all", x, x.reign(8, 9, 0), 4500 + 1350 + 1035 + 1003, 16 + 32 + 64 + 128);
        T.refuses("others", x, -1, () -> x.reign(0, 5, 0), () -> x.reign(9, 5, 0), () -> x.reign(2, 0, 0),
                () -> x.reign(2, 10, 0), () -> x.reign(2, 5, -1), () -> x.reign(2, 5, 100000));
        x.months(1);
        x.taxes(0, 1);
        T.told("what is in it already", x, x.reign(1, 1, 0), 100 + 190, 1);
        ShellsByLoad y = Checks.coast("10", "o1.", "o");
        T.told("of equal ones the least", y, y.reign(2, 5, 5), 5, 1);
        T.told("all", y, y.reign(2, 5, 3), 7, 3);
        Checks.ships(y, ".");
        T.told("the fewest", y, y.reign(8, 9, 0), 0, 0);
        y.brings(0, 1, 400);
        T.told("NEW too", y, y.reign(1, 9, 0), 360, 1);
        y.port();
        Checks.ships(y, "n9");
        T.told("closed", y, y.reign(1, 9, 0), 360, 1);
        ShellsByLoad z = Checks.coast("10;10", ".", "o");
        z.brings(0, 0, 100);
        T.told("behind the MONTH", z, z.reign(1, 9, 0), 72, 1);
        ShellsByLoad w = Checks.coast("10", ".", "o");
        w.brings(0, 0, 1000);
        T.told("two of three", w, w.reign(3, 5, 250), 750, 3);
        T.told("one of three", w, w.reign(3, 5, 251), 500, 1);
        ShellsByLoad none = new ShellsByLoad();
        T.refuses("no MARKETS", none, -2, () -> none.reign(1, 1, 0));
        T.refuses("others", none, -1, () -> none.reign(0, 1, 0), () -> none.reign(1, 10, 0));
    }

    private static void melts() {
        ShellsByLoad x = Checks.coast("10;5", ".", "m+d");
        T.told("10 by m", x, x.melts(0, 10, 3), 4, 2);
        T.told("10 by m + 1", x, x.melts(1, 10, 3), 3, 2);
        T.told("at once", x, x.melts(1, 10, 11), 0, 10);
        T.told("as many are not fewer", x, x.melts(1, 10, 10), 1, 5);
        T.told("none", x, x.melts(1, 0, 1), 0, 0);
        T.told("none by 0", x, x.melts(0, 0, 1), 1, 0);
        T.refuses("in none", x, -2, () -> x.melts(0, 9999, 99), () -> x.melts(1, 12, 1));
        T.refuses("others", x, -1, () -> x.melts(2, 5, 5), () -> x.melts(-1, 5, 5), () -> x.melts(0, -1, 5),
                () -> x.melts(0, 10000, 5), () -> x.melts(0, 5, 0), () -> x.melts(0, 5, 100));
        ShellsByLoad slow = Checks.coast("10", "o1", "o");
        T.told("in 99", slow, slow.melts(0, 981, 1), 99, 0);
        T.told("in 99", slow, slow.melts(0, 989, 1), 99, 0);
        T.refuses("in 100", slow, -2, () -> slow.melts(0, 990, 1));
    }

    private static void when() {
        ShellsByLoad x = Checks.coast("10;5", ".", "20-m");
        x.brings(1, 0, 100);
        x.brings(1, 1, 100);
        x.lays(1, 0, 40);
        x.lays(1, 1, 19);
        T.told("now", x, x.when(1, 0), 0, 99 / 20);
        T.told("in 5", x, x.when(1, 5), 4, 99 / 16);
        T.told("in 11", x, x.when(1, 60), 11, 99 / 9);
        T.told("none is LAID BY", x, x.when(0, 60), 0, 0);
        Checks.rule(x, "(m<4)*5+(m>4)*7");
        T.told("by 0", x, x.when(1, 60), 4, 9999);
        T.told("by 0", x, x.when(0, 60), 4, 9999);
        Checks.rule(x, "h+m");
        T.told("what is LAID BY stays", x, x.when(1, 3), 0, 1);
        T.refuses("others", x, -1, () -> x.when(2, 0), () -> x.when(-1, 0), () -> x.when(0, -1), () -> x.when(0, 61));
        ShellsByLoad y = Checks.coast("10", ".", "m");
        y.brings(0, 0, 8000);
        y.lays(0, 0, 8000);
        T.told("more than by 0", y, y.when(0, 12), 1, 16000);
    }

    private static void rises() {
        ShellsByLoad x = Checks.coast("1;1;1;1", ".", "(d=1)*m+(d=2)*(50-m)+(d=3)*m*2+9");
        T.told("1", x, x.rises(1), 2 + 8, 4);
        T.told("60", x, x.rises(60), 0, 0);
        x.months(11);
        T.told("a new year", x, x.rises(1), 4, 2 + 8);
        Checks.rule(x, "5");
        T.told("the same", x, x.rises(7), 0, 0);
        Checks.rule(x, "m");
        T.told("all", x, x.rises(12 * 4), 0, 0);
        T.told("all fall", x, x.rises(1), 0, 15);
        x.months(1);
        T.told("all rise", x, x.rises(1), 15, 0);
        T.refuses("another n", x, -1, () -> x.rises(0), () -> x.rises(61), () -> x.rises(-1));
        ShellsByLoad none = new ShellsByLoad();
        T.told("no MARKETS", none, none.rises(1), 0, 0);
        T.refuses("another n", none, -1, () -> none.rises(0));
    }

    private static void caravan() {
        ShellsByLoad x = Checks.coast("1;1;1", ".", "(d=0)*5+(d=1)*20+(d=2)*3+m");
        T.told("buys, sells", x, x.caravan(100), 420, 2, 1, 0);
        T.told("a rest", x, x.caravan(103), 423, 2, 1, 0);
        T.told("too few", x, x.caravan(4), 4, 0, 0, 0);
        Checks.rule(x, "(d=0)*40+(d=1)*2+(d=2)*7");
        T.told("later", x, x.caravan(101), 351, 0, 2, 1);
        Checks.rule(x, "(d=0)*2+(d=1)*2+(d=2)*7");
        T.told("the least row", x, x.caravan(100), 350, 0, 2, 1);
        T.told("the least row", x, x.caravan(101), 351, 0, 2, 1);
        Checks.rule(x, "5");
        T.told("all the same", x, x.caravan(100), 100, 0, 0, 0);
        Checks.rule(x, "0");
        T.told("none bought at 0", x, x.caravan(9999), 9999, 0, 0, 0);
        T.refuses("another v", x, -1, () -> x.caravan(0), () -> x.caravan(-1), () -> x.caravan(10000));
        Checks.markets(x, "1");
        Checks.rule(x, "(d=0)+(d=1)*999*999+(d=2)+(d=3)*999*999");
        T.told("the most", x, x.caravan(9999), 999999999, 2, 1, 2, 1);
        Checks.rule(x, "(d=0)*1+(d=1)*3+(d=2)*2+(d=3)*9");
        T.told("four deeds", x, x.caravan(10), 135, 2, 1, 2, 1);
        caravansByLength();
        ShellsByLoad one = Checks.coast("5", "o10");
        one.months(1);
        T.told("one MARKET", one, one.caravan(77), 77, 0);
        ShellsByLoad none = new ShellsByLoad();
        T.refuses("no MARKETS", none, -2, () -> none.caravan(1));
        T.refuses("another v", none, -1, () -> none.caravan(0), () -> none.caravan(10000));
    }

    private static void caravansByLength() {
        ShellsByLoad two = Checks.coast("1;1", ".", "2+d*m");
        T.told("two MARKETS", two, two.caravan(10), 15, 2, 1);
        ShellsByLoad five = Checks.coast("1;1;1;1;1", ".", "1+(d=1)*2+(d=3)*4");
        T.told("five MARKETS", five, five.caravan(10), 150, 2, 1, 2, 1, 0);
        ShellsByLoad six = Checks.coast("1;1;1;1;1;1", ".", "1+(d=1)+(d=3)*2+(d=5)*3");
        T.told("six MARKETS", six, six.caravan(10), 240, 2, 1, 2, 1, 2, 1);
        Checks.rule(six, "6-d");
        T.told("all fall", six, six.caravan(10), 10, 0, 0, 0, 0, 0, 0);
        Checks.rule(six, "2+(d=5)");
        T.told("as late as can be", six, six.caravan(11), 16, 0, 0, 0, 0, 2, 1);
    }

    private static void questionsChangeNothing() {
        ShellsByLoad x = Checks.coast("10;5;2", "o100n50.");
        x.months(7);
        x.lays(0, 0, 100);
        x.taxes(1, 3);
        Checks.say(x, "a text");
        T.changesNothing("ahead", x, () -> x.ahead(1, 9));
        T.changesNothing("doubles", x, () -> x.doubles(1));
        T.changesNothing("trade", x, () -> x.trade(500));
        T.changesNothing("buys", x, () -> x.buys(3, 1, 500, 5));
        T.changesNothing("best", x, () -> x.best(1, 500, 5));
        T.changesNothing("closes", x, () -> x.closes(1, 5, 3));
        T.changesNothing("grows", x, () -> x.grows(5));
        T.changesNothing("reign", x, () -> x.reign(5, 3, 0));
        T.changesNothing("melts", x, () -> x.melts(1, 500, 1));
        T.changesNothing("when", x, () -> x.when(0, 30));
        T.changesNothing("rises", x, () -> x.rises(9));
        T.changesNothing("caravan", x, () -> x.caravan(500));
        T.changesNothing("years", x, () -> x.years(5, 30));
        x.ahead(1, 9);
        String before = Checks.shown(x);
        x.buys(3, 1, 500, 5);
        T.same("buys() tells no row", before.equals(Checks.shown(x)), true);
    }
}
