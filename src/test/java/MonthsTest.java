/** Promises 10 to 19: months, deeds, a year, undo. */
public final class MonthsTest {
    private static final Checks T = new Checks();

    public static void main(String[] args) {
        T.test("10 months", MonthsTest::months);
        T.test("10 months: bounds", MonthsTest::monthsBounds);
        T.test("10 months: landed, 99999 at most", MonthsTest::landedAtMost);
        T.test("10 months: a month's parts", MonthsTest::partsOfMonth);
        T.test("11 brings", MonthsTest::brings);
        T.test("12 lays", MonthsTest::lays);
        T.test("13 spends", MonthsTest::spends);
        T.test("14 taxes", MonthsTest::taxes);
        T.test("15 burns", MonthsTest::burns);
        T.test("16 port", MonthsTest::port);
        T.test("17 flow", MonthsTest::flow);
        T.test("18 year", MonthsTest::year);
        T.test("18 year: refused deeds", MonthsTest::refusedDeeds);
        T.test("18 year: bad signs", MonthsTest::badYears);
        T.test("19 undo", MonthsTest::undo);
        T.test("19 undo: fifteen, and what forgets", MonthsTest::undoBounds);
        T.finish();
    }

    private static void months() {
        ShellsByLoad x = Checks.coast("10;5;2", "o100n50.");
        T.told("a month", x, x.months(1), 160, 1000, 0);
        T.same("OLD of 0", x.market(0, 1), 800);
        T.same("OLD of 1", x.market(1, 1), 200);
        T.told("another", x, x.months(1), (640 * 2 + 400) / 10, 500, 40 * 2 / 2);
        T.same("OLD of 0", x.market(0, 1), 640);
        T.same("NEW of 0", x.market(0, 2), 400);
        T.same("OLD of 1", x.market(1, 1), 320);
        T.same("NEW of 1", x.market(1, 2), 100);
        T.same("OLD of 2", x.market(2, 1), 40);
        T.same("month 2 brings nothing", x.months(1), (512 * 2 + 320) / 10);
        T.row("nothing", x, 0, (104 * 2 + 20) / 2);
        T.same("count(2)", x.count(2), 3);
        ShellsByLoad one = Checks.coast("10", "o1n2o3");
        T.told("four at once", one, one.months(4), (50 * 2 + 20) / 10, 70, 12);
        ShellsByLoad none = Checks.coast("", "o1");
        T.same("without MARKETS", none.months(3), 0);
        T.same("its row's price", none.row(1), 0);
        T.same("count(2)", none.count(2), 3);
        T.told("no month", x, x.months(0), (512 * 2 + 320) / 10, 0, (104 * 2 + 20) / 2);
        T.same("it can be undone", x.count(10), 4);
    }

    private static void monthsBounds() {
        ShellsByLoad x = Checks.coast("10;5", "o100");
        x.months(2);
        T.refuses("another n", x, -1, () -> x.months(-1), () -> x.months(61),
                () -> x.months(Integer.MAX_VALUE), () -> x.months(Integer.MIN_VALUE));
        x.months(60);
        T.same("60", x.count(2), 62);
        T.same("landed", x.row(0), 60000);
    }

    private static void landedAtMost() {
        ShellsByLoad x = Checks.coast("1", "o999");
        T.told("the last market keeps all", x, x.months(11), 99999, 99999, 99999);
        T.told("no room", x, x.months(3), 99999, 0, 99999);
        x.taxes(0, 1);
        T.told("room that a tax made", x, x.months(2), 99999, 9999, 99999);
        ShellsByLoad fresh = Checks.coast("2", "n999");
        for (int i = 0; i < 10; i++) {
            fresh.brings(0, 1, 9999);
        }
        fresh.brings(0, 0, 5);
        T.told("NEW has room of its own", fresh, fresh.months(1), (10 + 99999) / 2, 9, (10 + 99999) / 2);
        ShellsByLoad two = Checks.coast("1;1", "o999n999");
        two.flow(0);
        two.months(22);
        two.flow(2);
        T.told("what flows on makes room", two, two.months(3), 99999, 9990 + 9990, 99999);
        two.undo();
        T.told("the first of them met no room", two, two.months(1), 99999, 0, 19999 * 3);
        two.undo();
        two.undo();
        T.told("nothing flows, nothing lands", two, two.months(2), 99999, 0, 0);
    }

    private static void partsOfMonth() {
        ShellsByLoad x = Checks.coast("9;9", "o999", "1");
        x.flow(0);
        x.months(10);
        T.same("OLD of 0", x.market(0, 1), 99900);
        x.months(1);
        T.same("99999 at most", x.market(0, 1), 99999);
        T.same("as much landed as OLD became more", x.row(0), 99);
        x.months(2);
        T.same("nothing landed where there is no room", x.row(0), 0);
        x.flow(9);
        Checks.ships(x, ".");
        x.months(1);
        T.same("nine tenths, cut", x.market(1, 1), 89999);
        T.same("what stays", x.market(0, 1), 10000);
        for (int i = 0; i < 9; i++) {
            x.brings(0, 0, 9999);
        }
        x.months(1);
        T.same("99999 at most", x.market(1, 1), 99999);
        T.same("the others are gone", x.market(0, 1), 99991 - 99991 * 9 / 10);
        ShellsByLoad all = Checks.coast("9;9;9;9", ".");
        for (int i = 0; i < 4; i++) {
            all.brings(i, 1, 100 * (i + 1));
        }
        all.months(1);
        int[] due = {80, 180, 280, 460};
        for (int i = 0; i < 4; i++) {
            T.same("all at once, NEW of " + i, all.market(i, 2), due[i]);
        }
        ShellsByLoad full = Checks.coast("9;9;9", ".");
        for (int i = 0; i < 11; i++) {
            full.brings(0, 0, 9999);
            full.brings(1, 0, 9999);
        }
        full.months(1);
        T.same("what goes on makes room first", full.market(1, 1), 99999);
        T.same("OLD of 2", full.market(2, 1), 19999);
        ShellsByLoad late = Checks.coast("9", "o1.n3");
        late.months(4);
        Checks.ships(late, "o1o2o3");
        late.months(1);
        T.same("the one at MONTH by how many there are", late.row(0), 20);
        late.port();
        late.months(5);
        T.same("closed", late.row(0), 0);
    }

    private static void brings() {
        ShellsByLoad x = Checks.coast("5;6");
        T.same("OLD", x.brings(1, 0, 1), 1);
        T.same("OLD", x.brings(1, 0, 9999), 10000);
        T.same("NEW", x.brings(1, 1, 20), 20);
        T.same("at 0", x.brings(0, 1, 30), 30);
        T.same("OLD of 1", x.market(1, 1), 10000);
        T.same("count(10)", x.count(10), 4);
        T.refuses("others", x, -1, () -> x.brings(2, 0, 5), () -> x.brings(-1, 0, 5), () -> x.brings(0, 2, 5),
                () -> x.brings(0, -1, 5), () -> x.brings(0, 0, 0), () -> x.brings(0, 0, 10000),
                () -> x.brings(0, 0, -5), () -> x.brings(6, 0, 5), () -> x.brings(0, 0, Integer.MIN_VALUE));
        for (int i = 0; i < 9; i++) {
            x.brings(1, 0, 9999);
        }
        T.same("99999 at most", x.brings(1, 0, 9), 99999);
        T.same("99999 at most", x.brings(1, 0, 9), 99999);
    }

    private static void lays() {
        ShellsByLoad x = Checks.coast("5;6");
        x.brings(1, 0, 500);
        x.brings(1, 1, 300);
        T.same("OLD", x.lays(1, 0, 100), 100);
        T.same("OLD", x.lays(1, 0, 50), 150);
        T.same("NEW", x.lays(1, 1, 300), 300);
        T.same("OLD of 1", x.market(1, 1), 350);
        T.same("NEW of 1", x.market(1, 2), 0);
        T.same("OLD LAID BY", x.market(1, 3), 150);
        T.same("NEW LAID BY", x.market(1, 4), 300);
        T.refuses("not so many", x, -2, () -> x.lays(1, 0, 351), () -> x.lays(1, 1, 1), () -> x.lays(0, 0, 9999));
        T.refuses("others", x, -1, () -> x.lays(2, 0, 1), () -> x.lays(-1, 0, 1), () -> x.lays(1, 2, 1),
                () -> x.lays(1, -1, 1), () -> x.lays(1, 0, 0), () -> x.lays(1, 0, 10000), () -> x.lays(1, 1, -1));
        T.same("all of them", x.lays(1, 0, 350), 500);
        for (int i = 0; i < 9; i++) {
            x.brings(0, 1, 9999);
            x.lays(0, 1, 9999);
        }
        x.brings(0, 1, 9999);
        x.brings(0, 1, 9999);
        T.same("nine times", x.market(0, 4), 89991);
        T.same("up to 99999", x.lays(0, 1, 9999), 99990);
        T.refuses("there would be more than 99999", x, -3, () -> x.lays(0, 1, 10), () -> x.lays(0, 1, 9999));
        T.same("99999", x.lays(0, 1, 9), 99999);
        x.lays(0, 1, 1);
        x.taxes(0, 9);
        T.refuses("neither so many nor room", x, -2, () -> x.lays(0, 1, 9999));
    }

    private static void spends() {
        ShellsByLoad x = Checks.coast("5;6");
        x.brings(1, 0, 500);
        x.brings(1, 1, 400);
        x.lays(1, 0, 300);
        x.lays(1, 1, 200);
        T.same("OLD", x.spends(1, 0, 100), 200);
        T.same("NEW", x.spends(1, 1, 200), 0);
        T.same("OLD of 1", x.market(1, 1), 300);
        T.same("NEW of 1", x.market(1, 2), 400);
        T.refuses("not so many", x, -2, () -> x.spends(1, 0, 201), () -> x.spends(1, 1, 1), () -> x.spends(0, 0, 1));
        T.refuses("others", x, -1, () -> x.spends(2, 0, 1), () -> x.spends(-1, 0, 1), () -> x.spends(1, 2, 1),
                () -> x.spends(1, -1, 1), () -> x.spends(1, 0, 0), () -> x.spends(1, 0, 10000), () -> x.spends(1, 0, -1));
        T.same("count(10)", x.count(10), 6);
        for (int i = 0; i < 11; i++) {
            x.brings(1, 0, 9999);
        }
        T.same("99999 there at most", x.spends(1, 0, 150), 50);
        T.same("OLD of 1", x.market(1, 1), 99999);
    }

    private static void taxes() {
        ShellsByLoad x = Checks.coast("5;6");
        x.brings(1, 0, 99);
        x.brings(1, 1, 55);
        T.same("3 tenths", x.taxes(1, 3), 29 + 16);
        T.same("OLD of 1", x.market(1, 1), 70);
        T.same("NEW of 1", x.market(1, 2), 39);
        T.same("9 tenths", x.taxes(1, 9), 45 + 63 + 35);
        T.same("nothing there", x.taxes(0, 1), 143);
        T.same("it can be undone", x.count(10), 5);
        T.same("count(4)", x.count(4), 143);
        T.refuses("others", x, -1, () -> x.taxes(2, 1), () -> x.taxes(-1, 1), () -> x.taxes(0, 0),
                () -> x.taxes(0, 10), () -> x.taxes(1, -1), () -> x.taxes(1, Integer.MAX_VALUE));
        ShellsByLoad rich = Checks.coast("5");
        int due = 0;
        for (int i = 0; i < 112; i++) {
            rich.brings(0, 0, 9999);
            due = Math.min(999999, due + rich.market(0, 1) * 9 / 10);
            T.same("TREASURY", rich.taxes(0, 9), due);
        }
        T.same("999999 at most", rich.count(4), 999999);
        T.same("what is above it is gone", rich.market(0, 1) < 2000, true);
    }

    private static void burns() {
        ShellsByLoad x = Checks.coast("5;6");
        x.brings(1, 0, 9);
        x.brings(1, 1, 70);
        x.brings(1, 1, 5);
        x.lays(1, 1, 20);
        T.same("all NEW", x.burns(1), 55);
        T.same("NEW of 1", x.market(1, 2), 0);
        T.same("OLD stay", x.market(1, 1), 9);
        T.same("what is LAID BY stays", x.market(1, 4), 20);
        T.refuses("there are none", x, -2, () -> x.burns(1), () -> x.burns(0));
        T.refuses("none such", x, -1, () -> x.burns(2), () -> x.burns(-1), () -> x.burns(6));
    }

    private static void port() {
        ShellsByLoad x = Checks.coast("5", "o1");
        T.same("closed", x.port(), 1);
        T.same("count(5)", x.count(5), 1);
        x.months(2);
        T.same("nothing lands", x.market(0, 1), 0);
        T.same("MONTH goes on", x.count(2), 2);
        T.same("opened", x.port(), 0);
        T.same("count(5)", x.count(5), 0);
        x.months(2);
        T.same("it lands", x.market(0, 1), 20);
        T.same("count(10)", x.count(10), 4);
    }

    private static void flow() {
        ShellsByLoad x = Checks.coast("5;5", ".");
        T.same("what it was", x.flow(9), 2);
        T.same("count(3)", x.count(3), 9);
        x.brings(0, 0, 99);
        x.months(1);
        T.same("nine tenths", x.market(1, 1), 89);
        T.same("what it was", x.flow(0), 9);
        x.months(5);
        T.same("none", x.market(1, 1), 89);
        T.same("the same", x.flow(0), 0);
        T.same("it can be undone", x.count(10), 6);
        T.refuses("others", x, -1, () -> x.flow(-1), () -> x.flow(10), () -> x.flow(Integer.MIN_VALUE));
    }

    private static void year() {
        ShellsByLoad x = Checks.coast("10;5", "o100n50");
        T.told("an empty one", x, Checks.year(x, ""), 0, 0, 0);
        T.same("nothing to undo of it", x.count(10), 0);
        T.told("all deeds", x, Checks.year(x, "m1t05l0o2m1b0pf7s0o1m0"), 9, 0, 400);
        T.same("the text is empty then", x.count(12), 0);
        T.same("OLD of 0", x.market(0, 1), (400 - 200) - 40 + 100);
        T.same("NEW of 0", x.market(0, 2), 0);
        T.same("OLD LAID BY at 0", x.market(0, 3), 100);
        T.same("OLD of 1", x.market(1, 1), 200 + 40);
        T.same("NEW of 1", x.market(1, 2), 100);
        T.same("MONTH", x.count(2), 2);
        T.same("FLOW", x.count(3), 7);
        T.same("TREASURY", x.count(4), 400);
        T.same("THE PORT", x.count(5), 1);
        T.same("all as one", x.count(10), 1);
        T.same("undo()", x.undo(), 0);
        T.same("MONTH", x.count(2), 0);
        T.same("FLOW", x.count(3), 2);
        T.same("TREASURY", x.count(4), 0);
        T.same("THE PORT", x.count(5), 0);
        T.same("OLD", x.count(6), 0);
        T.same("LAID BY", x.count(8), 0);
        T.same("60 signs", Checks.year(x, "p".repeat(60)), 60);
        T.same("60 signs", Checks.year(x, "l0n1" + "m9".repeat(28)), 0);
        T.same("30 of m9", Checks.year(x, "m9".repeat(30)), 30);
        T.same("MONTH", x.count(2), 270);
        Checks.year(x, "l1n9s1n8");
        T.same("by 100 times so many", x.market(1, 4), 100);
    }

    private static void refusedDeeds() {
        ShellsByLoad x = Checks.coast("10;5", "o100");
        T.told("the first is refused", x, Checks.year(x, "t21m5"), 0, 1, 0);
        T.same("MONTH", x.count(2), 0);
        T.same("no deed, nothing to undo", x.count(10), 0);
        T.told("the third is refused", x, Checks.year(x, "m1t03b0m9"), 2, 1, 240);
        T.same("MONTH", x.count(2), 1);
        T.same("one to undo", x.count(10), 1);
        T.told("no such MARKET", x, Checks.year(x, "pb9p"), 1, 1, 240);
        T.same("one deed is enough", x.count(10), 2);
        x.undo();
        T.same("THE PORT", x.count(5), 0);
        Checks.year(x, "p");
        T.same("one deed is enough", x.count(10), 2);
        T.same("THE PORT", x.count(5), 1);
        T.told("not so many", x, Checks.year(x, "l0o6"), 0, 1, 240);
        T.told("not so many LAID BY", x, Checks.year(x, "l0o5s0o6"), 1, 1, 240);
        T.told("NEW", x, Checks.year(x, "s0o2s0n1"), 1, 1, 240);
        T.same("OLD LAID BY", x.market(0, 3), 300);
    }

    private static void badYear(String text, int p) {
        ShellsByLoad x = Checks.coast("10;5", "o100");
        x.months(3);
        x.lays(0, 0, 500);
        T.refuses("'" + text + "'", x, -1 - p, () -> {
            Checks.say(x, text);
            return x.year();
        });
    }

    private static void badYears() {
        badYear("x", 0);
        badYear("1", 0);
        badYear("m", 1);
        badYear("mm", 1);
        badYear("m12", 2);
        badYear("t", 1);
        badYear("t0", 2);
        badYear("t00", 2);
        badYear("tx1", 1);
        badYear("t0x", 2);
        badYear("b", 1);
        badYear("bp", 1);
        badYear("p1", 1);
        badYear("f", 1);
        badYear("fx", 1);
        badYear("l", 1);
        badYear("l0", 2);
        badYear("l0x", 2);
        badYear("l01", 2);
        badYear("l0o", 3);
        badYear("l0o0", 3);
        badYear("s0n", 3);
        badYear("s0n0", 3);
        badYear("sxn1", 1);
        badYear("s0p1", 2);
        badYear("m1;m1", 2);
        badYear("m1m2l0o1z", 8);
        badYear("p".repeat(61), 60);
        badYear("p".repeat(60) + "z", 60);
        badYear("p".repeat(59) + "l0o1", 60);
        badYear("p".repeat(58) + "l0o1", 60);
        badYear("p".repeat(58) + "lz", 59);
        badYear("p".repeat(58) + "lzzz", 59);
        badYear("p".repeat(59) + "l", 60);
        badYear("p".repeat(80), 60);
        badYear("M1", 0);
    }

    private static void undo() {
        ShellsByLoad x = Checks.coast("10;5", "o100n30");
        x.months(4);
        x.lays(0, 0, 500);
        x.lays(0, 1, 200);
        Checks.Call[] deeds = {() -> x.months(3), () -> x.brings(1, 1, 700), () -> x.lays(0, 0, 100),
            () -> x.spends(0, 1, 100), () -> x.taxes(0, 4), () -> x.burns(0), () -> x.port(), () -> x.flow(8),
            () -> Checks.year(x, "m3t03l1o1")};
        int had = x.count(10);
        for (int i = 0; i < deeds.length; i++) {
            String before = Checks.shown(x);
            T.same("deed " + i + " is done", deeds[i].answer() >= 0, true);
            T.same("deed " + i + " is kept", x.count(10), had + 1);
            T.same("deed " + i + " changes something", before.equals(Checks.shown(x)), false);
            T.same("undo()", x.undo(), had);
            String after = Checks.shownButRow(x);
            T.same("deed " + i + " is undone", before.startsWith(after), true);
        }
        String[] states = new String[deeds.length + 1];
        for (int i = 0; i < deeds.length; i++) {
            states[i] = Checks.shownButRow(x);
            deeds[i].answer();
        }
        for (int i = deeds.length - 1; i >= 0; i--) {
            T.same("undo()", x.undo(), had + i);
            T.same("back to " + i, states[i].equals(Checks.shownButRow(x)), true);
        }
    }

    private static void undoBounds() {
        ShellsByLoad x = Checks.coast("10;5", ".");
        T.refuses("none", x, -1, () -> x.undo());
        for (int i = 1; i <= 20; i++) {
            x.brings(0, 0, i);
            T.same("15 at most", x.count(10), Math.min(15, i));
        }
        for (int i = 14; i >= 0; i--) {
            T.same("undo()", x.undo(), i);
        }
        T.same("the first five stay", x.market(0, 1), 15);
        T.refuses("none", x, -1, () -> x.undo());
        for (int i = 0; i < 40; i++) {
            x.brings(1, 1, 1);
            x.brings(1, 1, 1);
            x.undo();
        }
        T.same("one less than 15", x.count(10), 14);
        T.same("NEW of 1", x.market(1, 2), 40);
        T.same("a bad markets()", Checks.markets(x, "7;x"), -3);
        T.same("forgets nothing", x.count(10), 14);
        T.same("an empty markets()", Checks.markets(x, ""), 0);
        T.same("forgets nothing", x.count(10), 14);
        T.same("markets()", Checks.markets(x, "7"), 1);
        T.same("forgets all", x.count(10), 0);
        T.same("undo()", x.undo(), -1);
        x.keep(0);
        x.port();
        x.again(1);
        T.same("a refused again() forgets nothing", x.count(10), 1);
        Checks.ships(x, "o5");
        Checks.rule(x, "5");
        x.sheet(2, 1, 5, 5);
        x.left(5, 2);
        T.same("nor do these", x.count(10), 1);
        x.again(0);
        T.same("again() forgets all", x.count(10), 0);
        x.brings(0, 0, 10);
        Checks.ships(x, "o7n8");
        Checks.rule(x, "9");
        T.same("undo()", x.undo(), 0);
        T.same("SHIPS stay", x.count(1), 2);
        T.same("THE RULE stays", x.market(0, 5), 9);
    }
}
