/** The boundaries of promises 32 to 43. */
final class EdgesOfCounting {
    private static final int MIN = Integer.MIN_VALUE;
    private static final int MAX = Integer.MAX_VALUE;

    private final Edges e;
    private final Checks t;

    private EdgesOfCounting(Edges edges) {
        e = edges;
        t = edges.checks;
    }

    static void run(Edges edges) {
        EdgesOfCounting all = new EdgesOfCounting(edges);
        edges.of("Promise 32: strings");
        all.strings();
        edges.of("Promise 33: counts");
        all.counts();
        edges.of("Promise 34: pays");
        all.pays();
        all.badPurses();
        edges.of("Promise 35: bearers");
        all.bearers();
        edges.of("Promise 36: left");
        all.left();
        edges.of("Promise 37: forget");
        all.forget();
        edges.of("Promise 38: fits");
        all.fits();
        edges.of("Promise 39: ask");
        all.ask();
        edges.of("Promise 40: sound");
        all.sound();
        edges.of("Promise 41: finds");
        all.finds();
        edges.of("Promise 42: law");
        all.law();
        edges.of("Promise 43: rests");
        all.rests();
    }

    private void strings() {
        e.edge("v (0 .. 99999) shells are strung by 40: how many strings; the ROW: shells left over", () -> {
            ShellsByLoad x = new ShellsByLoad();
            t.told("0", x, x.strings(0, 1), 0, 0, 0);
            t.told("39", x, x.strings(39, 1), 0, 39, 0);
            t.told("40", x, x.strings(40, 1), 1, 0, 1);
            t.told("79", x, x.strings(79, 1), 1, 39, 1);
            t.told("99999", x, x.strings(99999, 1), 2499, 39, 100);
            t.refuses("others", x, -1, () -> x.strings(-1, 1), () -> x.strings(100000, 1));
        });
        e.edge("how many days k (1 .. 9) counters need who string 25 a day each (rounded up)", () -> {
            ShellsByLoad x = new ShellsByLoad();
            t.told("25 by 1", x, x.strings(1000, 1), 25, 0, 1);
            t.told("26 by 1", x, x.strings(1040, 1), 26, 0, 2);
            t.told("225 by 9", x, x.strings(9000, 9), 225, 0, 1);
            t.told("226 by 9", x, x.strings(9040, 9), 226, 0, 2);
            t.told("1 by 9", x, x.strings(40, 9), 1, 0, 1);
            t.told("none by 9", x, x.strings(39, 9), 0, 39, 0);
            t.refuses("others", x, -1, () -> x.strings(40, 0), () -> x.strings(40, 10));
        });
        e.edge("NONE: others.", () -> {
            ShellsByLoad x = EdgesOfRow.busy();
            t.refuses("v", x, -1, () -> x.strings(-1, 5), () -> x.strings(100000, 5), () -> x.strings(MIN, 5),
                    () -> x.strings(MAX, 5));
            t.refuses("k", x, -1, () -> x.strings(5, 0), () -> x.strings(5, 10), () -> x.strings(5, -1),
                    () -> x.strings(5, MIN), () -> x.strings(5, MAX));
        });
    }

    private void counts() {
        e.edge("A price of v (0 .. 9999) shells", () -> {
            ShellsByLoad x = new ShellsByLoad();
            t.told("0", x, x.counts(0, 7), 0, 0, 7);
            t.told("9999", x, x.counts(9999, 7), 700, 0, 7);
            t.refuses("others", x, -1, () -> x.counts(-1, 7), () -> x.counts(10000, 7));
        });
        e.edge("w (1 .. 99) shells for each 100 of it, or part of 100", () -> {
            ShellsByLoad x = new ShellsByLoad();
            t.told("1 of 1", x, x.counts(1, 1), 1, 0, 0);
            t.told("99 of 1", x, x.counts(1, 99), 99, 1, 9702);
            t.told("99 of 100", x, x.counts(100, 99), 99, 0, 9702);
            t.told("99 of 101", x, x.counts(101, 99), 198, 1, 9702);
            t.told("99 of 200", x, x.counts(200, 99), 198, 0, 9702);
            t.told("99 of 9999", x, x.counts(9999, 99), 9900, 0, 9702);
            t.refuses("others", x, -1, () -> x.counts(100, 0), () -> x.counts(100, 100));
        });
        e.edge("1 if that is more than the price, else 0", () -> {
            ShellsByLoad x = new ShellsByLoad();
            t.told("more", x, x.counts(59, 60), 60, 1, 120);
            t.told("as much", x, x.counts(60, 60), 60, 0, 120);
            t.told("more", x, x.counts(119, 60), 120, 1, 120);
            t.told("as much", x, x.counts(120, 60), 120, 0, 120);
            t.told("as much", x, x.counts(0, 60), 0, 0, 120);
        });
        e.edge("the least price from which on to 9999 it never is (10000: it is at 9999).", () -> {
            ShellsByLoad x = new ShellsByLoad();
            for (int w = 1; w <= 99; w++) {
                int from = 10000;
                while (from > 0 && (from - 1 + 99) / 100 * w <= from - 1) {
                    from--;
                }
                x.counts(50, w);
                t.same("w " + w, x.row(1), from);
                t.same("with so few it never is at 9999", from < 10000, true);
            }
            t.told("from 0 on", x, x.counts(0, 1), 0, 0, 0);
            t.told("from 2 on", x, x.counts(0, 2), 0, 0, 2);
        });
        e.edge("NONE: others.", () -> {
            ShellsByLoad x = EdgesOfRow.busy();
            t.refuses("v", x, -1, () -> x.counts(-1, 5), () -> x.counts(10000, 5), () -> x.counts(MIN, 5),
                    () -> x.counts(MAX, 5));
            t.refuses("w", x, -1, () -> x.counts(5, 0), () -> x.counts(5, 100), () -> x.counts(5, -1),
                    () -> x.counts(5, MIN), () -> x.counts(5, MAX));
        });
    }

    private void pays() {
        e.edge("at most 8, each a number 1 .. 999 of shells in a string", () -> {
            ShellsByLoad x = new ShellsByLoad();
            t.told("1", x, Checks.pays(x, "1", 1), 1, 1);
            t.told("999", x, Checks.pays(x, "999", 999), 1, 1);
            t.told("eight", x, Checks.pays(x, "999;999;999;999;999;999;999;999", 7992), 8, 255);
            t.told("007 and 07", x, Checks.pays(x, "007;07", 14), 2, 3);
            t.refuses("0", x, -1, () -> Checks.pays(x, "0", 0));
            t.refuses("1000", x, -4, () -> Checks.pays(x, "1000", 0));
            t.refuses("nine", x, -17, () -> Checks.pays(x, "1;1;1;1;1;1;1;1;1", 1));
        });
        e.edge("an empty one: none)", () -> {
            ShellsByLoad x = new ShellsByLoad();
            t.told("0 of none", x, x.pays(0), 0, 0);
            t.refuses("1 of none", x, -10000, () -> x.pays(1));
        });
        e.edge("the fewest strings of it that are v (0 .. 9999) shells together", () -> {
            ShellsByLoad x = new ShellsByLoad();
            t.told("0", x, Checks.pays(x, "5;7", 0), 0, 0);
            t.told("one, not two", x, Checks.pays(x, "1;2;3", 3), 1, 4);
            t.told("two, not three", x, Checks.pays(x, "1;2;3;4;2", 6), 2, 8 + 2);
            t.refuses("9999", x, -10000, () -> Checks.pays(x, "999;999", 9999));
            t.refuses("others", x, -20000, () -> Checks.pays(x, "5;7", -1), () -> Checks.pays(x, "5;7", 10000));
        });
        e.edge("which (bits by LINES: of as few the least)", () -> {
            ShellsByLoad x = new ShellsByLoad();
            t.told("the first of three", x, Checks.pays(x, "4;4;4", 4), 1, 1);
            t.told("the first two", x, Checks.pays(x, "4;4;4", 8), 2, 3);
            t.told("2 and 3, not 1 and 4", x, Checks.pays(x, "1;2;3;4", 5), 2, 6);
            t.told("the eighth", x, Checks.pays(x, "1;1;1;1;1;1;1;9", 9), 1, 128);
        });
        e.edge("-10000: it can't be so", () -> {
            ShellsByLoad x = EdgesOfRow.busy();
            Checks.say(x, "");
            t.refuses("between", x, -10000, () -> Checks.pays(x, "5;7", 6), () -> Checks.pays(x, "5;7", 11));
            t.refuses("too few", x, -10000, () -> Checks.pays(x, "5;7", 1), () -> Checks.pays(x, "5;7", 4));
            t.refuses("too many", x, -10000, () -> Checks.pays(x, "5;7", 13), () -> Checks.pays(x, "5;7", 9999));
        });
        e.edge("-20000: another v", () -> {
            ShellsByLoad x = EdgesOfRow.busy();
            Checks.say(x, "");
            t.refuses("v", x, -20000, () -> Checks.pays(x, "5;7", -1), () -> Checks.pays(x, "5;7", 10000),
                    () -> Checks.pays(x, "5;7", MIN), () -> Checks.pays(x, "5;7", MAX));
        });
        e.edge("(asked first;", () -> {
            ShellsByLoad x = EdgesOfRow.busy();
            Checks.say(x, "");
            t.refuses("ahead of bad signs", x, -20000, () -> Checks.pays(x, "x", -1),
                    () -> Checks.pays(x, "5;", 10000), () -> Checks.pays(x, "0", MAX), () -> Checks.pays(x, "", -1));
        });
        e.edge("THE TEXT is emptied).", () -> {
            ShellsByLoad x = new ShellsByLoad();
            for (int v : new int[] {-1, 10000, MIN, MAX}) {
                Checks.say(x, "5;7");
                t.same("another v", x.pays(v), -20000);
                t.same("count(12)", x.count(12), 0);
                t.same("an empty purse", x.pays(5), -10000);
            }
        });
    }

    private void badPurse(String text, int p) {
        ShellsByLoad x = Checks.coast("5");
        t.refuses("'" + text + "'", x, -1 - p, () -> Checks.pays(x, text, 5));
    }

    private void badPurses() {
        e.edge("-1 - p: the sign at p can't stand there", () -> {
            badPurse("x", 0);
            badPurse(";", 0);
            badPurse("-5", 0);
            badPurse("5x", 1);
            badPurse("5;;5", 2);
            badPurse(":", 0);
            badPurse("/", 0);
            badPurse("5:", 1);
            badPurse("5/", 1);
            badPurse("5; 5", 2);
            badPurse("123;456x", 7);
            badPurse("1;1;1;1;1;1;1;1x", 15);
        });
        e.edge("its end, if it ends too early", () -> {
            badPurse("5;", 2);
            badPurse("123;456;", 8);
            badPurse("1;1;1;1;1;1;1;", 14);
        });
        e.edge("a number 0: at its last digit", () -> {
            badPurse("0", 0);
            badPurse("00", 1);
            badPurse("000", 2);
            badPurse("0;5", 0);
            badPurse("5;00", 3);
            badPurse("5;000;5", 4);
        });
        e.edge("a fourth digit: at it", () -> {
            badPurse("1234", 3);
            badPurse("1000", 3);
            badPurse("0012", 3);
            badPurse("5;9999;5", 5);
            badPurse("9".repeat(80), 3);
            badPurse("999;999;999;999;999;999;999;9990", 31);
        });
        e.edge("the first sign of a ninth LINE", () -> {
            badPurse("1;1;1;1;1;1;1;1;1", 16);
            badPurse("1;1;1;1;1;1;1;1;x", 16);
            badPurse("999;999;999;999;999;999;999;999;999", 32);
            badPurse("1;".repeat(40), 16);
        });
    }

    private void bearers() {
        e.edge("A tax of v (0 .. 99999) shells", () -> {
            ShellsByLoad x = Checks.coast("1;1");
            t.told("0", x, x.bearers(0, 1), 0, 0);
            t.told("1", x, x.bearers(1, 0), 1, 1);
            t.told("99999", x, x.bearers(99999, 1), 250, 97499);
            t.refuses("others", x, -1, () -> x.bearers(-1, 1), () -> x.bearers(100000, 1));
        });
        e.edge("each of whom carries 400, and eats 10 shells of it for each MARKET that he passes on (as many as its number)", () -> {
            ShellsByLoad x = Checks.coast("1;1;1;1;1;1");
            for (int market = 0; market < 6; market++) {
                t.told("400", x, x.bearers(400, market), 1, 400 - 10 * market);
                t.told("401", x, x.bearers(401, market), 2, 401 - 20 * market);
                t.told("800", x, x.bearers(800, market), 2, 800 - 20 * market);
                t.told("801", x, x.bearers(801, market), 3, 801 - 30 * market);
            }
        });
        e.edge("all of them: the fewest bearers: how many", () -> {
            ShellsByLoad x = Checks.coast("1;1;1;1;1;1");
            for (int v = 399; v <= 99999; v += 400) {
                x.bearers(v, 5);
                t.same("just below", x.bearers(v, 0), (v + 1) / 400);
                t.same("just so many", x.bearers(Math.min(99999, v + 1), 3), (v + 1) / 400);
                t.same("one more", v + 2 > 99999 ? 251 : x.bearers(v + 2, 5), (v + 1) / 400 + 1);
            }
        });
        e.edge("shells that arrive (0 at least)", () -> {
            ShellsByLoad x = Checks.coast("1;1;1;1;1;1");
            t.told("51 of 50", x, x.bearers(51, 5), 1, 1);
            t.told("50 of 50", x, x.bearers(50, 5), 1, 0);
            t.told("49 of 50", x, x.bearers(49, 5), 1, 0);
            t.told("1 of 50", x, x.bearers(1, 5), 1, 0);
        });
        e.edge("NONE: others.", () -> {
            ShellsByLoad x = EdgesOfRow.busy();
            t.refuses("v", x, -1, () -> x.bearers(-1, 0), () -> x.bearers(100000, 0), () -> x.bearers(MIN, 0),
                    () -> x.bearers(MAX, 0));
            t.refuses("MARKETS", x, -1, () -> x.bearers(5, 3), () -> x.bearers(5, -1), () -> x.bearers(5, 6),
                    () -> x.bearers(5, MIN), () -> x.bearers(5, MAX));
            ShellsByLoad none = new ShellsByLoad();
            t.refuses("no MARKETS", none, -1, () -> none.bearers(0, 0));
        });
    }

    private void left() {
        e.edge("laid by a (2 .. 40)", () -> {
            ShellsByLoad x = new ShellsByLoad();
            t.refuses("others", x, -1, () -> x.left(1, 0), () -> x.left(41, 0), () -> x.left(0, 0));
            t.same("2", x.left(2, 1), 1);
            t.same("40", x.left(40, 1), 2);
            t.told("by both", x, x.fits(), 25, 1, 961);
        });
        e.edge("b (0 .. a less 1) were left over", () -> {
            ShellsByLoad x = new ShellsByLoad();
            t.refuses("others", x, -1, () -> x.left(2, -1), () -> x.left(2, 2), () -> x.left(40, 40),
                    () -> x.left(7, 7), () -> x.left(7, 8));
            t.same("0", x.left(2, 0), 1);
            t.same("1 of 2", x.left(2, 1), 2);
            t.same("39 of 40", x.left(40, 39), 3);
            t.same("6 of 7", x.left(7, 6), 4);
        });
        e.edge("Refused: others,", () -> {
            ShellsByLoad x = EdgesOfRow.busy();
            t.refuses("others", x, -1, () -> x.left(MIN, 0), () -> x.left(MAX, 0), () -> x.left(5, MIN),
                    () -> x.left(5, MAX), () -> x.left(-5, -6), () -> x.left(41, 40));
        });
        e.edge(", 8.", () -> {
            ShellsByLoad x = EdgesOfRow.busy();
            for (int i = 3; i <= 8; i++) {
                t.same("so many", x.left(10, 3), i);
            }
            t.refuses("8", x, -1, () -> x.left(10, 3), () -> x.left(2, 0));
            t.same("they stay", x.fits(), 14);
        });
    }

    private void forget() {
        e.edge("They are forgotten: how many there were.", () -> {
            ShellsByLoad x = new ShellsByLoad();
            t.same("none", x.forget(), 0);
            for (int i = 0; i < 8; i++) {
                x.left(10, 3);
            }
            t.same("8", x.forget(), 8);
            t.same("none", x.forget(), 0);
            t.same("count(9)", x.count(9), 0);
            t.same("all fit", x.fits(), 999);
            t.same("there is room", x.left(10, 3), 1);
        });
    }

    private void fits() {
        e.edge("Numbers 1 .. 999 that fit all that was heard", () -> {
            ShellsByLoad x = new ShellsByLoad();
            t.told("nothing was heard", x, x.fits(), 999, 1, 999);
            x.left(37, 0);
            t.told("not 0", x, x.fits(), 27, 37, 999);
            x.forget();
            x.left(40, 0);
            t.told("not 1000", x, x.fits(), 24, 40, 960);
        });
        e.edge("the least, the greatest (nothing without)", () -> {
            ShellsByLoad x = new ShellsByLoad();
            x.left(37, 0);
            x.left(27, 0);
            t.told("one", x, x.fits(), 1, 999, 999);
            x.left(2, 0);
            t.told("none", x, x.fits(), 0);
        });
    }

    private void ask() {
        e.edge("The a (2 .. 40) to lay them by next", () -> {
            ShellsByLoad x = new ShellsByLoad();
            t.told("40", x, x.ask(), 40, 25);
            x.left(37, 0);
            x.left(27, 0);
            t.told("2", x, x.ask(), 2, 1);
        });
        e.edge("of equal ones the least: it", () -> {
            ShellsByLoad x = new ShellsByLoad();
            x.left(40, 7);
            x.left(37, 7);
            t.told("7 alone: all are equal", x, x.ask(), 2, 1);
            x.forget();
            x.left(40, 7);
            x.left(3, 1);
            t.told("7, 127, .. 967: nine; 9 and 10 have a divisor with 120", x, x.ask(), 11, 1);
        });
        e.edge("whatever is left over, the fewest numbers are left at most;", () -> {
            ShellsByLoad x = new ShellsByLoad();
            x.left(37, 0);
            x.left(9, 0);
            t.told("333, 666, 999: by 2 two are left", x, x.ask(), 4, 1);
            x.forget();
            x.left(2, 1);
            t.told("500 odd ones", x, x.ask(), 39, 13);
        });
        e.edge("the ROW: how many at most.", () -> {
            ShellsByLoad x = new ShellsByLoad();
            t.told("of 999", x, x.ask(), 40, 25);
            x.left(40, 0);
            t.told("24 numbers: 23 are too few, 24, 25 and 26 have a divisor with 40", x, x.ask(), 27, 1);
            x.forget();
            x.left(37, 36);
            x.left(9, 8);
            t.told("332, 665, 998: 4 parts them, 2 and 3 do not", x, x.ask(), 4, 1);
            x.left(4, 1);
            t.told("665 alone", x, x.ask(), 2, 1);
        });
        e.edge("-2: none fits.", () -> {
            ShellsByLoad x = EdgesOfRow.busy();
            x.left(10, 4);
            t.refuses("none", x, -2, () -> x.ask());
            x.forget();
            x.left(40, 0);
            x.left(39, 0);
            t.refuses("1560 and 0 are too great and too small", x, -2, () -> x.ask());
        });
    }

    private void sound() {
        e.edge("Of n (1 .. 10) strings", () -> {
            ShellsByLoad x = new ShellsByLoad();
            t.told("1", x, x.sound(1, 1, 3), 0, 7, 10);
            t.told("10", x, x.sound(10, 1, 3), 0, 7, 10);
            t.told("all of 10", x, x.sound(10, 10, 1), 0, 3486784401L, 10000000000L);
            t.refuses("others", x, -1, () -> x.sound(0, 0, 3), () -> x.sound(11, 1, 3));
        });
        e.edge("by p tenths (0 .. 10)", () -> {
            ShellsByLoad x = new ShellsByLoad();
            t.told("0", x, x.sound(5, 3, 0), 0, 1, 1);
            t.told("1", x, x.sound(5, 3, 1), 0, 729, 1000);
            t.told("9", x, x.sound(5, 3, 9), 0, 1, 1000);
            t.told("10", x, x.sound(5, 3, 10), 0, 0, 1);
            t.refuses("others", x, -1, () -> x.sound(5, 3, -1), () -> x.sound(5, 3, 11));
        });
        e.edge("k (0 .. n) are counted", () -> {
            ShellsByLoad x = new ShellsByLoad();
            t.told("0", x, x.sound(5, 0, 3), 0, 1, 1);
            t.told("0 of none sound", x, x.sound(5, 0, 10), 0, 1, 1);
            t.told("5", x, x.sound(5, 5, 5), 0, 1, 32);
            t.refuses("others", x, -1, () -> x.sound(5, -1, 3), () -> x.sound(5, 6, 3), () -> x.sound(1, 2, 3));
        });
        e.edge("how likely none of those is short", () -> {
            ShellsByLoad x = new ShellsByLoad();
            t.told("3 of 10", x, x.sound(5, 1, 3), 0, 7, 10);
            t.told("twice", x, x.sound(5, 2, 3), 0, 49, 100);
        });
        e.edge("NONE: others.", () -> {
            ShellsByLoad x = EdgesOfRow.busy();
            t.refuses("n", x, -1, () -> x.sound(0, 0, 5), () -> x.sound(11, 0, 5), () -> x.sound(MIN, 0, 5),
                    () -> x.sound(MAX, 0, 5));
            t.refuses("k", x, -1, () -> x.sound(5, -1, 5), () -> x.sound(5, 6, 5), () -> x.sound(5, MIN, 5),
                    () -> x.sound(5, MAX, 5));
            t.refuses("p", x, -1, () -> x.sound(5, 5, -1), () -> x.sound(5, 5, 11), () -> x.sound(5, 5, MIN),
                    () -> x.sound(5, 5, MAX));
        });
    }

    private void finds() {
        e.edge("Of n (1 .. 30) strings", () -> {
            ShellsByLoad x = new ShellsByLoad();
            t.told("1", x, x.finds(1, 1, 1), 0, 1, 1);
            t.told("30", x, x.finds(30, 1, 1), 0, 1, 30);
            t.told("the most ways", x, x.finds(30, 15, 15), 0, 155117519L, 155117520L);
            t.refuses("others", x, -1, () -> x.finds(0, 0, 0), () -> x.finds(31, 1, 1));
        });
        e.edge("s (0 .. n) are short", () -> {
            ShellsByLoad x = new ShellsByLoad();
            t.told("0", x, x.finds(6, 0, 3), 0, 0, 1);
            t.told("6", x, x.finds(6, 6, 1), 0, 1, 1);
            t.refuses("others", x, -1, () -> x.finds(6, -1, 3), () -> x.finds(6, 7, 3));
        });
        e.edge("k (0 .. n) are taken by lot", () -> {
            ShellsByLoad x = new ShellsByLoad();
            t.told("0", x, x.finds(6, 6, 0), 0, 0, 1);
            t.told("6", x, x.finds(6, 1, 6), 0, 1, 1);
            t.refuses("others", x, -1, () -> x.finds(6, 3, -1), () -> x.finds(6, 3, 7));
        });
        e.edge("how likely one or more of those is short", () -> {
            ShellsByLoad x = new ShellsByLoad();
            t.told("as many as are sound", x, x.finds(6, 3, 3), 0, 19, 20);
            t.told("more than are sound", x, x.finds(6, 3, 4), 0, 1, 1);
            t.told("one of six", x, x.finds(6, 2, 1), 0, 1, 3);
        });
        e.edge("NONE: others.", () -> {
            ShellsByLoad x = EdgesOfRow.busy();
            t.refuses("n", x, -1, () -> x.finds(0, 0, 0), () -> x.finds(31, 0, 0), () -> x.finds(MIN, 0, 0),
                    () -> x.finds(MAX, 0, 0));
            t.refuses("s", x, -1, () -> x.finds(5, -1, 0), () -> x.finds(5, 6, 0), () -> x.finds(5, MIN, 0),
                    () -> x.finds(5, MAX, 0));
            t.refuses("k", x, -1, () -> x.finds(5, 0, -1), () -> x.finds(5, 0, 6), () -> x.finds(5, 0, MIN),
                    () -> x.finds(5, 0, MAX));
        });
    }

    private void law() {
        e.edge("(an empty one: none)", () -> {
            ShellsByLoad x = Checks.coast("5;7", ".", "3");
            x.brings(0, 1, 50);
            x.brings(1, 1, 70);
            for (int i = 0; i < 3; i++) {
                t.told("the first one", x, x.law(), 20 - 6, 20, 6);
                t.same("THE RULE stays", x.market(0, 5), 3);
                Checks.law(x, "9");
            }
        });
        e.edge("less by THE RULE: how much; the ROW: both.", () -> {
            ShellsByLoad x = Checks.coast("5;5;5;5;5;5", ".", "3");
            t.told("less", x, Checks.law(x, "2"), -6, 12, 18);
            t.told("as much", x, Checks.law(x, "3"), 0, 18, 18);
            t.told("more", x, Checks.law(x, "4"), 6, 24, 18);
            t.told("the most", x, Checks.law(x, "999*999"), 6 * 99999 - 18, 6 * 99999, 18);
            Checks.rule(x, "999*999");
            t.told("the least", x, Checks.law(x, "0"), -6 * 99999, 0, 6 * 99999);
            ShellsByLoad none = new ShellsByLoad();
            t.told("no MARKETS", none, Checks.law(none, "4"), 0, 0, 0);
        });
        e.edge("-1000000 - p: the sign at p can't stand there (as rule()).", () -> {
            ShellsByLoad x = EdgesOfRow.busy();
            Checks.say(x, "");
            String[] texts = {"x", "+", "5+", "5<6<7", "1234", "(((((1)))))", "(5", "5)", "1+".repeat(20),
                "1+".repeat(20) + "1", "-".repeat(80), "1+".repeat(19) + "1x1"};
            int[] p = {0, 0, 2, 3, 3, 4, 2, 1, 40, 40, 40, 39};
            for (int i = 0; i < texts.length; i++) {
                final String text = texts[i];
                t.refuses("'" + text + "'", x, -1000000 - p[i], () -> Checks.law(x, text));
            }
        });
    }

    private static int own(int x, int y, int v) {
        return x * (v - (18 - x - y) / 2) + 2 * (9 - x);
    }

    private void rests() {
        e.edge("Two lay by x and y (0 .. 9) of 9 baskets each", () -> {
            ShellsByLoad x = new ShellsByLoad();
            t.told("0 and 0", x, x.rests(0), 1, 0, 0);
            x.rests(9);
            int most = 0;
            for (int a = 0; a <= 9; a++) {
                for (int b = 0; b <= 9; b++) {
                    most += resting(a, b, 9) ? 1 : 0;
                }
            }
            t.same("v 9", x.rests(9), most);
            t.same("9 and 9 are among them", resting(9, 9, 9), true);
        });
        e.edge("a basket that is LAID BY is worth v (0 .. 9) less half of that price (cut)", () -> {
            ShellsByLoad s = new ShellsByLoad();
            for (int v = 0; v <= 9; v++) {
                int pairs = 0;
                for (int i = 0; i < 100; i++) {
                    pairs += resting(i / 10, i % 10, v) ? 1 : 0;
                }
                t.same("v " + v, s.rests(v), pairs);
            }
            t.refuses("others", s, -1, () -> s.rests(-1), () -> s.rests(10));
        });
        e.edge("neither would have more by another number alone: how many; the ROW: the least (nothing without).", () -> {
            ShellsByLoad s = new ShellsByLoad();
            for (int v = 0; v <= 9; v++) {
                int least = 0;
                while (!resting(least / 10, least % 10, v)) {
                    least++;
                }
                t.told("v " + v, s, s.rests(v), s.rests(v), least / 10, least % 10);
            }
        });
        e.edge("NONE: another v.", () -> {
            ShellsByLoad x = EdgesOfRow.busy();
            t.refuses("v", x, -1, () -> x.rests(-1), () -> x.rests(10), () -> x.rests(MIN), () -> x.rests(MAX));
        });
    }

    private static boolean resting(int x, int y, int v) {
        for (int other = 0; other <= 9; other++) {
            if (own(other, y, v) > own(x, y, v) || own(other, x, v) > own(y, x, v)) {
                return false;
            }
        }
        return true;
    }
}
