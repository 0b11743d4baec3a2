/** An object with something in all its parts, and calls on it: questions, refused ones, such without an answer. */
final class EdgesOfRow {
    private EdgesOfRow() {
    }

    static ShellsByLoad busy() {
        ShellsByLoad x = Checks.coast("10;5;2", "o100n50.", "(o*2+n)/g+h");
        x.months(7);
        x.flow(3);
        x.lays(0, 0, 100);
        x.lays(0, 1, 50);
        x.taxes(0, 3);
        x.port();
        x.keep(0);
        x.brings(2, 0, 77);
        x.left(10, 3);
        x.left(7, 5);
        x.strings(2087, 1);
        Checks.say(x, "a text");
        return x;
    }

    static Checks.Call[] questions(ShellsByLoad x) {
        return new Checks.Call[] {() -> x.market(1, 5), () -> x.load(1, 1), () -> x.ahead(1, 9), () -> x.doubles(1),
            () -> x.trade(500), () -> x.buys(3, 1, 500, 5), () -> x.best(1, 500, 5), () -> x.closes(1, 5, 3),
            () -> x.grows(5), () -> x.reign(5, 3, 0), () -> x.melts(1, 9999, 99), () -> x.when(0, 30),
            () -> x.rises(9), () -> x.caravan(500), () -> x.strings(500, 5), () -> x.counts(500, 5),
            () -> x.bearers(500, 2), () -> x.fits(), () -> x.ask(), () -> x.sound(5, 3, 4), () -> x.finds(9, 3, 4),
            () -> x.rests(5), () -> x.years(5, 60), () -> x.count(4), () -> Checks.caught(() -> x.row(0)),
            () -> askedByText(x, () -> x.law()), () -> askedByText(x, () -> x.pays(5))};
    }

    /** These two empty THE TEXT: it is told again behind them. */
    private static long askedByText(ShellsByLoad x, Checks.Call call) {
        Checks.say(x, "5");
        long answer = call.answer();
        Checks.say(x, "a text");
        return answer;
    }

    /** All answer NONE. */
    static Checks.Call[] refused(ShellsByLoad x) {
        return new Checks.Call[] {() -> x.sheet(4, 0, 0, 0), () -> x.sheet(2, 7, 0, 0), () -> x.months(61),
            () -> x.brings(3, 0, 1), () -> x.brings(0, 2, 1), () -> x.brings(0, 0, 0), () -> x.lays(3, 0, 1),
            () -> x.lays(0, 2, 1), () -> x.lays(0, 0, 0), () -> x.spends(3, 0, 1), () -> x.spends(0, 2, 1),
            () -> x.spends(0, 0, 0), () -> x.taxes(3, 1), () -> x.taxes(0, 10), () -> x.burns(3), () -> x.flow(10),
            () -> x.ahead(3, 0), () -> x.ahead(0, 100), () -> x.doubles(3), () -> x.trade(0), () -> x.buys(5, 0, 1, 0),
            () -> x.buys(0, 3, 1, 0), () -> x.buys(0, 0, 1, 61), () -> x.best(3, 1, 0), () -> x.best(0, 1, 61),
            () -> x.closes(3, 1, 0), () -> x.closes(0, 9, 0), () -> x.closes(0, 1, 9), () -> x.grows(0),
            () -> x.reign(0, 1, 0), () -> x.reign(1, 10, 0), () -> x.reign(1, 1, -1), () -> x.melts(3, 0, 1),
            () -> x.melts(0, -1, 1), () -> x.melts(0, 0, 100), () -> x.when(3, 0), () -> x.when(0, 61),
            () -> x.rises(0), () -> x.caravan(0), () -> x.strings(-1, 1), () -> x.strings(0, 10), () -> x.counts(-1, 1),
            () -> x.counts(0, 100), () -> x.bearers(-1, 0), () -> x.bearers(0, 3), () -> x.left(1, 0),
            () -> x.left(2, 2), () -> x.sound(0, 0, 0), () -> x.sound(1, 2, 0), () -> x.sound(1, 1, 11),
            () -> x.finds(0, 0, 0), () -> x.finds(1, 2, 0), () -> x.finds(1, 0, 2), () -> x.rests(10),
            () -> x.years(0, 0)};
    }

    /** All answer a number below NONE that tells why there is no answer. */
    static Checks.Call[] withoutAnswer(ShellsByLoad x) {
        return new Checks.Call[] {() -> x.lays(0, 0, 9999), () -> x.spends(0, 0, 101), () -> x.sheet(2, -1, 5, 5),
            () -> x.sheet(3, 0, 0, 0), () -> burnt(x), () -> still(x), () -> x.reign(1, 1, 99999),
            () -> x.melts(0, 9999, 1), () -> unfit(x), () -> x.pays(-1), () -> Checks.pays(x, "5", 6),
            () -> Checks.pays(x, "5;", 5), () -> Checks.markets(x, "5;"), () -> Checks.ships(x, "o"),
            () -> Checks.rule(x, "5+"), () -> Checks.law(x, "5+"), () -> Checks.year(x, "m"), () -> x.count(13)};
    }

    /** All are answered, and tell no ROW. */
    static Checks.Call[] withoutRow(ShellsByLoad x) {
        return new Checks.Call[] {() -> x.sign(7), () -> x.end(0) ? 1 : -1, () -> Checks.markets(x, "5"), () -> x.markets(),
            () -> Checks.ships(x, "o1"), () -> Checks.rule(x, "9"), () -> x.market(0, 5), () -> x.load(0, 1),
            () -> x.sheet(2, 2, 5, 5), () -> x.brings(0, 1, 900), () -> x.lays(0, 1, 50), () -> x.spends(0, 1, 50),
            () -> x.taxes(0, 1), () -> x.burns(0), () -> x.port(), () -> x.flow(3), () -> x.undo(),
            () -> x.buys(3, 0, 50, 5), () -> x.left(2, 1), () -> x.forget(), () -> x.keep(1) ? 1 : -1,
            () -> x.again(1) ? 1 : -1, () -> x.count(4)};
    }

    private static long burnt(ShellsByLoad x) {
        x.burns(0);
        return x.burns(0);
    }

    private static long still(ShellsByLoad x) {
        Checks.rule(x, "9");
        return x.doubles(0);
    }

    private static long unfit(ShellsByLoad x) {
        x.left(10, 4);
        return x.ask();
    }
}
