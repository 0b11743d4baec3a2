/** Promises 32 to 43: counting, guessing, chances, laws, rests. */
public final class CountingTest {
    private static final Checks T = new Checks();

    public static void main(String[] args) {
        T.test("32 strings", CountingTest::strings);
        T.test("33 counts", CountingTest::counts);
        T.test("34 pays", CountingTest::pays);
        T.test("34 pays: bad signs", CountingTest::badPurses);
        T.test("35 bearers", CountingTest::bearers);
        T.test("36 left", CountingTest::left);
        T.test("37 forget", CountingTest::forget);
        T.test("38 fits", CountingTest::fits);
        T.test("39 ask", CountingTest::ask);
        T.test("40 sound", CountingTest::sound);
        T.test("41 finds", CountingTest::finds);
        T.test("42 law", CountingTest::law);
        T.test("43 rests", CountingTest::rests);
        T.finish();
    }

    private static void strings() {
        ShellsByLoad x = new ShellsByLoad();
        T.told("none", x, x.strings(0, 1), 0, 0, 0);
        T.told("39", x, x.strings(39, 9), 0, 39, 0);
        T.told("40", x, x.strings(40, 9), 1, 0, 1);
        T.told("a day's", x, x.strings(1000, 1), 25, 0, 1);
        T.told("one more", x, x.strings(1040, 1), 26, 0, 2);
        T.told("two counters", x, x.strings(2000, 2), 50, 0, 1);
        T.told("two counters", x, x.strings(2041, 2), 51, 1, 2);
        T.told("the most", x, x.strings(99999, 1), 2499, 39, 100);
        T.told("the most", x, x.strings(99999, 9), 2499, 39, 12);
        T.refuses("others", x, -1, () -> x.strings(-1, 1), () -> x.strings(100000, 1), () -> x.strings(5, 0),
                () -> x.strings(5, 10), () -> x.strings(5, -1));
    }

    private static void counts() {
        ShellsByLoad x = new ShellsByLoad();
        T.told("none", x, x.counts(0, 60), 0, 0, 120);
        T.told("one", x, x.counts(1, 60), 60, 1, 120);
        T.told("59", x, x.counts(59, 60), 60, 1, 120);
        T.told("as many is not more", x, x.counts(60, 60), 60, 0, 120);
        T.told("100", x, x.counts(100, 60), 60, 0, 120);
        T.told("101", x, x.counts(101, 60), 120, 1, 120);
        T.told("w 1", x, x.counts(5, 1), 1, 0, 0);
        T.told("w 2", x, x.counts(5, 2), 2, 0, 2);
        T.told("w 50", x, x.counts(9999, 50), 5000, 0, 50);
        T.told("w 51", x, x.counts(9999, 51), 5100, 0, 102);
        T.told("w 99", x, x.counts(9999, 99), 9900, 0, 9702);
        T.told("w 99", x, x.counts(9701, 99), 9702, 1, 9702);
        T.refuses("others", x, -1, () -> x.counts(-1, 5), () -> x.counts(10000, 5), () -> x.counts(5, 0),
                () -> x.counts(5, 100), () -> x.counts(5, -1));
    }

    private static void pays() {
        ShellsByLoad x = new ShellsByLoad();
        T.told("none", x, Checks.pays(x, "", 0), 0, 0);
        T.told("none of a purse", x, Checks.pays(x, "5;7", 0), 0, 0);
        T.same("the text is empty then", x.count(12), 0);
        T.told("both", x, Checks.pays(x, "5;7", 12), 2, 3);
        T.told("the fewest", x, Checks.pays(x, "1;2;3;6", 6), 1, 8);
        T.told("of as few the least", x, Checks.pays(x, "1;6;3;4;5;2", 7), 2, 3);
        T.told("of as few the least", x, Checks.pays(x, "9;6;3;4;5;2", 7), 2, 4 + 8);
        T.told("twice the same", x, Checks.pays(x, "4;4;4", 8), 2, 3);
        T.told("all of eight", x, Checks.pays(x, "999;999;999;999;999;999;999;999", 7992), 8, 255);
        T.told("the eighth", x, Checks.pays(x, "1;1;1;1;1;1;1;007", 7), 1, 128);
        T.refuses("it can't be so", x, -10000, () -> Checks.pays(x, "5;7", 6), () -> Checks.pays(x, "5;7", 13),
                () -> Checks.pays(x, "", 1), () -> Checks.pays(x, "999", 9999));
        T.refuses("another v", x, -20000, () -> Checks.pays(x, "5;7", -1), () -> Checks.pays(x, "5;7", 10000),
                () -> Checks.pays(x, "x", 10000), () -> x.pays(Integer.MIN_VALUE));
    }

    private static void badPurse(String text, int p) {
        ShellsByLoad x = Checks.coast("5;6");
        x.months(1);
        T.refuses("'" + text + "'", x, -1 - p, () -> Checks.pays(x, text, 5));
    }

    private static void badPurses() {
        badPurse("x", 0);
        badPurse(";", 0);
        badPurse("5;", 2);
        badPurse("5;;5", 2);
        badPurse("5x", 1);
        badPurse("5 ", 1);
        badPurse("0", 0);
        badPurse("00", 1);
        badPurse("000", 2);
        badPurse("0000", 2);
        badPurse("00;5", 1);
        badPurse("5;0;5", 2);
        badPurse("1234", 3);
        badPurse("0123", 3);
        badPurse("5;1234;x", 5);
        badPurse("1;1;1;1;1;1;1;1;1", 16);
        badPurse("1;1;1;1;1;1;1;1;", 16);
        badPurse("1;1;1;1;1;1;1;1;x", 16);
        badPurse("1;1;1;1;1;1;1;1x", 15);
        badPurse("999;999;999;999;999;999;999;9999", 31);
        badPurse("999;999;999;999;999;999;999;999;", 32);
        badPurse("9".repeat(80), 3);
    }

    private static void bearers() {
        ShellsByLoad x = Checks.coast("1;1;1;1;1;1");
        T.told("none", x, x.bearers(0, 5), 0, 0);
        T.told("one", x, x.bearers(1, 0), 1, 1);
        T.told("he eats it all", x, x.bearers(1, 1), 1, 0);
        T.told("he eats it all", x, x.bearers(10, 1), 1, 0);
        T.told("one left", x, x.bearers(11, 1), 1, 1);
        T.told("400", x, x.bearers(400, 2), 1, 380);
        T.told("401", x, x.bearers(401, 2), 2, 361);
        T.told("the most", x, x.bearers(99999, 5), 250, 99999 - 12500);
        T.refuses("others", x, -1, () -> x.bearers(-1, 0), () -> x.bearers(100000, 0), () -> x.bearers(5, 6),
                () -> x.bearers(5, -1));
        ShellsByLoad none = new ShellsByLoad();
        T.refuses("no MARKETS", none, -1, () -> none.bearers(0, 0), () -> none.bearers(5, 0));
    }

    private static void left() {
        ShellsByLoad x = new ShellsByLoad();
        T.refuses("others", x, -1, () -> x.left(1, 0), () -> x.left(0, 0), () -> x.left(41, 0), () -> x.left(5, 5),
                () -> x.left(5, -1), () -> x.left(40, 40), () -> x.left(-5, -7), () -> x.left(Integer.MIN_VALUE, 0));
        T.same("2", x.left(2, 1), 1);
        T.same("40", x.left(40, 39), 2);
        T.same("the same again", x.left(40, 39), 3);
        for (int i = 4; i <= 8; i++) {
            T.same("so many", x.left(5, 4), i);
            T.same("count(9)", x.count(9), i);
        }
        T.refuses("8", x, -1, () -> x.left(5, 4), () -> x.left(2, 0));
    }

    private static void forget() {
        ShellsByLoad x = new ShellsByLoad();
        T.same("none", x.forget(), 0);
        x.left(7, 3);
        x.left(9, 3);
        T.same("two", x.forget(), 2);
        T.same("count(9)", x.count(9), 0);
        T.same("none", x.forget(), 0);
        T.same("all fit again", x.fits(), 999);
        for (int i = 0; i < 8; i++) {
            x.left(7, 3);
        }
        T.same("eight", x.forget(), 8);
        T.same("room again", x.left(7, 3), 1);
    }

    private static void fits() {
        ShellsByLoad x = new ShellsByLoad();
        T.told("all", x, x.fits(), 999, 1, 999);
        x.left(10, 0);
        T.told("by 10", x, x.fits(), 99, 10, 990);
        x.left(9, 0);
        T.told("by 90", x, x.fits(), 11, 90, 990);
        x.left(11, 0);
        T.told("one", x, x.fits(), 1, 990, 990);
        x.left(37, 1);
        T.told("none", x, x.fits(), 0);
        T.changesNothing("fits", x, () -> x.fits());
        x.forget();
        x.left(2, 1);
        x.left(2, 0);
        T.told("what does not go together", x, x.fits(), 0);
        x.forget();
        x.left(40, 39);
        T.told("by 40", x, x.fits(), 25, 39, 999);
    }

    private static void ask() {
        ShellsByLoad x = new ShellsByLoad();
        T.told("of all", x, x.ask(), 40, 25);
        x.left(2, 1);
        T.told("of the odd ones", x, x.ask(), 39, 13);
        x.forget();
        x.left(37, 36);
        x.left(9, 8);
        T.told("three", x, x.fits(), 3, 332, 998);
        T.told("what parts them", x, x.ask(), 4, 1);
        x.left(4, 1);
        T.told("one: the least", x, x.ask(), 2, 1);
        x.left(4, 2);
        T.refuses("none fits", x, -2, () -> x.ask());
        x.forget();
        x.left(37, 0);
        x.left(27, 0);
        T.told("999 alone", x, x.ask(), 2, 1);
        T.told("999 alone", x, x.fits(), 1, 999, 999);
        x.forget();
        x.left(40, 1);
        x.left(39, 1);
        T.told("1 alone", x, x.ask(), 2, 1);
        x.left(2, 0);
        T.refuses("none fits", x, -2, () -> x.ask());
        T.changesNothing("ask", x, () -> x.ask());
    }

    private static void sound() {
        ShellsByLoad x = new ShellsByLoad();
        T.told("half", x, x.sound(5, 2, 5), 0, 1, 4);
        T.told("none counted", x, x.sound(5, 0, 10), 0, 1, 1);
        T.told("all short", x, x.sound(5, 1, 10), 0, 0, 1);
        T.told("none short", x, x.sound(10, 10, 0), 0, 1, 1);
        T.told("one", x, x.sound(1, 1, 4), 0, 3, 5);
        T.told("three tenths", x, x.sound(10, 10, 3), 0, 282475249L, 10000000000L);
        T.told("four of six", x, x.sound(6, 4, 4), 0, 81, 625);
        T.refuses("others", x, -1, () -> x.sound(0, 0, 5), () -> x.sound(11, 0, 5), () -> x.sound(5, 6, 5),
                () -> x.sound(5, -1, 5), () -> x.sound(5, 2, -1), () -> x.sound(5, 2, 11), () -> x.sound(-1, -1, 5));
    }

    private static void finds() {
        ShellsByLoad x = new ShellsByLoad();
        T.told("2 of 4", x, x.finds(4, 2, 2), 0, 5, 6);
        T.told("none short", x, x.finds(30, 0, 30), 0, 0, 1);
        T.told("none taken", x, x.finds(30, 30, 0), 0, 0, 1);
        T.told("all taken", x, x.finds(30, 1, 30), 0, 1, 1);
        T.told("more than sound ones", x, x.finds(10, 6, 5), 0, 1, 1);
        T.told("as many as sound ones", x, x.finds(10, 5, 5), 0, 251, 252);
        T.told("one", x, x.finds(30, 7, 1), 0, 7, 30);
        T.told("of one", x, x.finds(1, 1, 1), 0, 1, 1);
        T.told("of one", x, x.finds(1, 0, 1), 0, 0, 1);
        T.told("half of 30", x, x.finds(30, 15, 15), 0, 155117519L, 155117520L);
        T.told("one of 30", x, x.finds(30, 1, 15), 0, 1, 2);
        T.refuses("others", x, -1, () -> x.finds(0, 0, 0), () -> x.finds(31, 0, 0), () -> x.finds(5, 6, 0),
                () -> x.finds(5, -1, 0), () -> x.finds(5, 2, 6), () -> x.finds(5, 2, -1));
    }

    private static void law() {
        ShellsByLoad x = Checks.coast("10;5", ".", "o+d");
        x.brings(0, 0, 30);
        x.brings(1, 0, 50);
        T.told("less", x, Checks.law(x, "7"), 14 - 81, 14, 81);
        T.same("the text is empty then", x.count(12), 0);
        T.told("more", x, Checks.law(x, "o*3+g"), 100 + 155 - 81, 255, 81);
        T.told("none: the first one", x, Checks.law(x, ""), 6 + 20 - 81, 26, 81);
        T.told("the same", x, Checks.law(x, "o+d"), 0, 81, 81);
        T.told("the most", x, Checks.law(x, "999*999"), 199998 - 81, 199998, 81);
        T.same("THE RULE stays", x.market(1, 5), 51);
        T.changesNothing("law", x, () -> Checks.law(x, "d"));
        T.refuses("bad", x, -1000000, () -> Checks.law(x, "x"));
        T.refuses("bad", x, -1000002, () -> Checks.law(x, "o+"));
        T.same("THE RULE stays", x.market(1, 5), 51);
        ShellsByLoad none = new ShellsByLoad();
        T.told("no MARKETS", none, Checks.law(none, "5"), 0, 0, 0);
    }

    private static int worth(int x, int y, int v) {
        return x * (v - (18 - x - y) / 2) + 2 * (9 - x);
    }

    private static void rests() {
        ShellsByLoad s = new ShellsByLoad();
        for (int v = 0; v <= 9; v++) {
            int howMany = 0;
            int least = 100;
            for (int x = 9; x >= 0; x--) {
                for (int y = 9; y >= 0; y--) {
                    boolean rests = true;
                    for (int z = 0; z <= 9; z++) {
                        rests &= worth(z, y, v) <= worth(x, y, v) && worth(z, x, v) <= worth(y, x, v);
                    }
                    howMany += rests ? 1 : 0;
                    least = rests ? 10 * x + y : least;
                }
            }
            T.told("v " + v, s, s.rests(v), howMany, least / 10, least % 10);
        }
        T.refuses("another v", s, -1, () -> s.rests(-1), () -> s.rests(10), () -> s.rests(Integer.MAX_VALUE));
        T.changesNothing("rests", s, () -> s.rests(5));
    }
}
