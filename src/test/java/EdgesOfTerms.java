/** The boundaries of 'Terms' 1 and 2. */
final class EdgesOfTerms {
    private static final int MIN = Integer.MIN_VALUE;
    private static final int MAX = Integer.MAX_VALUE;

    private final Edges e;
    private final Checks t;

    private EdgesOfTerms(Edges edges) {
        e = edges;
        t = edges.checks;
    }

    static void run(Edges edges) {
        EdgesOfTerms all = new EdgesOfTerms(edges);
        edges.of("What it is");
        all.calls();
        edges.of("Terms");
        all.markets();
        all.shells();
        all.ships();
        all.coast();
        all.rule();
        all.operators();
        all.things();
        all.price();
        all.month();
        all.flowing();
        all.row();
        all.refused();
    }

    private void calls() {
        e.edge("at most 512 calls after it has been made", () -> {
            ShellsByLoad x = new ShellsByLoad();
            for (int i = 1; i < 512; i++) {
                x.months(60);
            }
            t.same("the 512th call", x.count(2), 511 * 60);
        });
    }

    private void markets() {
        e.edge("MARKETS 0 .. (at most 6; 0 is the coast, each next one farther inland)", () -> {
            ShellsByLoad x = Checks.coast("1;2;3;4;5;6", "o1");
            t.same("six", x.count(0), 6);
            t.refuses("a seventh", x, -1, () -> Checks.markets(x, "7"));
            x.flow(9);
            x.months(2);
            int[] due = {11 - 9, 9 - 8 + 9, 8, 0, 0, 0};
            for (int i = 0; i < 6; i++) {
                t.same("OLD of " + i, x.market(i, 1), due[i]);
            }
        });
        e.edge("GOODS 1 .. 99", () -> {
            ShellsByLoad x = Checks.coast("1;99");
            t.same("the least", x.market(0, 0), 1);
            t.same("the most", x.market(1, 0), 99);
            x.sheet(2, 2, 0, 100);
            t.same("not 0", x.market(0, 0), 1);
            t.same("not 100", x.market(1, 0), 99);
        });
        e.edge("They are told by a text of at most 17 signs", () -> {
            ShellsByLoad x = new ShellsByLoad();
            t.same("18", Checks.markets(x, "10;20;30;40;50;600"), -18);
            t.same("17", Checks.markets(x, "10;20;30;40;50;60"), 6);
        });
        e.edge("LINES with ; between, each one more", () -> {
            ShellsByLoad x = Checks.coast("1;2");
            t.same("two more", Checks.markets(x, "3;4"), 2);
            t.same("four", x.count(0), 4);
            t.same("behind the others", x.market(3, 0), 4);
        });
        e.edge("GOODS (1 or 2 digits", () -> {
            ShellsByLoad x = new ShellsByLoad();
            t.same("no digit", Checks.markets(x, ";5"), -1);
            t.same("three", Checks.markets(x, "123"), -3);
            t.same("one, two", Checks.markets(x, "1;12"), 2);
            t.same("1", x.market(0, 0), 1);
            t.same("12", x.market(1, 0), 12);
        });
        e.edge(", not 0)", () -> {
            ShellsByLoad x = new ShellsByLoad();
            t.same("0", Checks.markets(x, "0"), -1);
            t.same("00", Checks.markets(x, "00"), -2);
            t.same("01 and 10 are not 0", Checks.markets(x, "01;10"), 2);
            t.same("01", x.market(0, 0), 1);
            t.same("10", x.market(1, 0), 10);
        });
    }

    private void shells() {
        e.edge("OLD and NEW shells there (0 .. 99999, at first 0)", () -> {
            for (int kind = 0; kind < 2; kind++) {
                ShellsByLoad x = Checks.coast("5");
                t.same("at first", x.market(0, 1 + kind), 0);
                t.same("not below 0", x.lays(0, kind, 1), -2);
                for (int i = 0; i < 11; i++) {
                    x.brings(0, kind, 9999);
                }
                t.same("at most", x.market(0, 1 + kind), 99999);
                t.same("none of the other kind", x.market(0, 2 - kind), 0);
            }
        });
        e.edge("LAID BY of both kinds (0 .. 99999, at first 0)", () -> {
            for (int kind = 0; kind < 2; kind++) {
                ShellsByLoad x = Checks.coast("5");
                t.same("at first", x.market(0, 3 + kind), 0);
                t.same("not below 0", x.spends(0, kind, 1), -2);
                int answer = 0;
                for (int i = 0; i < 11; i++) {
                    x.brings(0, kind, 9999);
                    answer = x.lays(0, kind, i < 10 ? 9999 : 9);
                }
                t.same("at most", answer, 99999);
                t.same("at most", x.market(0, 3 + kind), 99999);
                t.same("no more", x.lays(0, kind, 1), -3);
                t.same("none of the other kind", x.market(0, 4 - kind), 0);
            }
        });
    }

    private void ships() {
        e.edge("SHIPS are 1 to 8 LOADS", () -> {
            ShellsByLoad x = new ShellsByLoad();
            t.same("none", Checks.ships(x, ""), -1);
            t.same("one", Checks.ships(x, "o1"), 1);
            t.same("eight", Checks.ships(x, "o1n2.o3n4.o5n6"), 8);
            t.same("nine", Checks.ships(x, "o1n2.o3n4.o5n6."), -15);
        });
        e.edge("(at first one of nothing)", () -> {
            ShellsByLoad x = Checks.coast("5");
            t.same("one", x.count(1), 1);
            t.same("of nothing", x.load(0, 0), -1);
            t.same("of nothing", x.load(0, 1), 0);
            x.months(9);
            t.same("nothing landed", x.row(0), 0);
        });
        e.edge("told by a text of at most 32 signs, one behind the other", () -> {
            ShellsByLoad x = new ShellsByLoad();
            t.same("33", Checks.ships(x, "o111o222o333o444o555o666o777o8888"), -33);
            t.same("32", Checks.ships(x, "o111o222o333o444o555o666o777o888"), 8);
        });
        e.edge("a number (1 to 3 digits: so many times 10 OLD, NEW shells)", () -> {
            ShellsByLoad x = new ShellsByLoad();
            t.same("no digit", Checks.ships(x, "o"), -2);
            t.same("four", Checks.ships(x, "n1000"), -5);
            Checks.ships(x, "n0o7n77o777n999");
            int[] due = {0, 70, 770, 7770, 9990};
            for (int i = 0; i < due.length; i++) {
                t.same("times 10", x.load(i, 1), due[i]);
            }
        });
        e.edge(", or . (nothing)", () -> {
            ShellsByLoad x = Checks.coast("5", "o1.");
            x.months(2);
            t.same("nothing in the second", x.row(0), 10);
        });
        e.edge("That of a MONTH is the one at MONTH by how many there are (rest).", () -> {
            ShellsByLoad x = Checks.coast("5", "o1o2o3o4o5o6o7o8");
            for (int month = 0; month < 17; month++) {
                x.months(1);
                t.same("MONTH " + month, x.row(0), (month % 8 + 1) * 10);
            }
            Checks.ships(x, "o1o2o3");
            x.months(1);
            t.same("MONTH 17 of three", x.row(0), 30);
            x.months(1);
            t.same("MONTH 18 of three", x.row(0), 10);
        });
    }

    private void coast() {
        e.edge("(at first 2).", () -> {
            ShellsByLoad x = Checks.coast("5;5");
            x.brings(0, 0, 100);
            t.same("count(3)", x.count(3), 2);
            t.told("20 go", x, x.ahead(1, 1), 8, 20, 0);
        });
        e.edge("FLOW 0 .. 9 tenths", () -> {
            ShellsByLoad x = Checks.coast("5;5");
            x.brings(0, 0, 100);
            t.same("10", x.flow(10), -1);
            t.same("-1", x.flow(-1), -1);
            t.same("9", x.flow(9), 2);
            t.told("90 go", x, x.ahead(1, 1), 36, 90, 0);
            t.same("0", x.flow(0), 9);
            t.told("none goes", x, x.ahead(1, 1), 0, 0, 0);
        });
        e.edge("MONTH (at first 0).", () -> {
            ShellsByLoad x = Checks.coast("5", "o1o2", "m");
            t.same("count(2)", x.count(2), 0);
            t.same("by a rule", x.market(0, 5), 0);
            x.months(1);
            t.same("the first LOAD", x.row(0), 10);
        });
        e.edge("TREASURY (0 .. 999999, at first 0).", () -> {
            ShellsByLoad x = Checks.coast("5", "o999n999");
            t.same("at first", x.count(4), 0);
            t.same("nothing to be taxed", x.taxes(0, 9), 0);
            int due = 0;
            for (int i = 0; i < 6; i++) {
                x.months(22);
                due = Math.min(999999, due + 2 * 89999);
                t.same("taxed", x.taxes(0, 9), due);
            }
            t.same("the most", x.count(4), 999999);
        });
        e.edge("THE PORT is open (at first) or closed.", () -> {
            ShellsByLoad x = Checks.coast("5", "o1");
            t.same("at first", x.count(5), 0);
            t.same("closed", x.port(), 1);
            t.same("count(5)", x.count(5), 1);
            t.same("open", x.port(), 0);
            t.same("count(5)", x.count(5), 0);
        });
    }

    private void price(String rule, int due) {
        ShellsByLoad x = Checks.coast("9;5", ".", rule);
        t.same("PRICE by '" + rule + "'", x.market(1, 5), due);
    }

    private void bad(String rule, int p) {
        t.same("the rule '" + rule + "'", Checks.rule(new ShellsByLoad(), rule), -1 - p);
    }

    private void rule() {
        e.edge("THE RULE is a text of at most 40 signs", () -> {
            bad("1+".repeat(19) + "234", 40);
            price("1+".repeat(19) + "23", 42);
        });
        e.edge("(at first none: (o*2+n)/g)", () -> {
            ShellsByLoad x = Checks.coast("7");
            x.brings(0, 0, 10);
            x.brings(0, 1, 14);
            t.same("34 by 7", x.market(0, 5), 4);
            x.brings(0, 1, 1);
            t.same("35 by 7", x.market(0, 5), 5);
        });
        e.edge("an EXPRESSION in ( ) (at most 4 in one another)", () -> {
            price("((((7))))", 7);
            price("((1)+(((2))))*((((3))))", 9);
            bad("(((((7)))))", 4);
            bad("1+((2+((3+(4)))))", 10);
            bad("()", 1);
        });
    }

    private void operators() {
        e.edge("< > = bind least (two; 1 or 0;", () -> {
            price("1+1<3*1", 1);
            price("3=1+2", 1);
            price("3=4-1", 1);
            price("5>2+2", 1);
            price("4<3*2-1", 1);
            price("2<2", 0);
            price("2>2", 0);
            price("2=2", 1);
            price("3>2", 1);
            price("2<3", 1);
            price("3=2", 0);
            price("(9>2)+(2<9)+(4=4)", 3);
            bad("1<", 2);
            bad("<1", 0);
        });
        e.edge("not one behind the other)", () -> {
            price("(1<2)<2", 1);
            price("2>(1<2)", 1);
            price("((1=1)=1)=(2>1)", 1);
            bad("1<2<3", 3);
            bad("1=1+1>2", 5);
            bad("(3>2=1)", 4);
            bad("(3>2)=1=1", 7);
            bad("3>(2=1)>1", 7);
        });
        e.edge("then + - (from the left)", () -> {
            price("20-5-3", 12);
            price("20-5+3", 18);
            price("2+3*4-1", 13);
        });
        e.edge("then * / (from the left;", () -> {
            price("100/7*2", 28);
            price("100/7/2", 7);
            price("2*7/3", 4);
            price("2+6/3", 4);
        });
        e.edge("by 0: 0;", () -> {
            price("5/0", 0);
            price("5/0+8", 8);
            price("5/(o-n)+8", 8);
            price("0/0+8", 8);
            price("-5/0+8", 8);
        });
        e.edge("cut to 0)", () -> {
            price("7/2", 3);
            price("(0-7)/2+9", 6);
            price("7/-2+9", 6);
            price("-7/-2+9", 12);
        });
        e.edge("then - ahead of a thing (any many)", () -> {
            price("9+-2*3", 3);
            price("9--2", 11);
            price("-(3-8)", 5);
            price("-d+9", 8);
            price("-".repeat(38) + "77", 77);
            price("-".repeat(39) + "7", 0);
            price("-".repeat(39) + "o", 0);
            bad("-".repeat(40), 40);
            bad("-", 1);
        });
    }

    private void things() {
        e.edge("a NUMBER of 1 to 3 digits", () -> {
            price("7", 7);
            price("77", 77);
            price("999", 999);
            price("007", 7);
            price("000", 0);
            bad("1000", 3);
            bad("1+0001", 5);
        });
        e.edge("m MONTH by 12 (rest)", () -> {
            ShellsByLoad x = Checks.coast("5", ".", "m");
            for (int month = 0; month <= 36; month++) {
                t.same("MONTH " + month, x.market(0, 5), month % 12);
                x.months(1);
            }
        });
        e.edge("h what is LAID BY there of both kinds", () -> {
            ShellsByLoad x = Checks.coast("5;5", ".", "h");
            t.same("nothing", x.market(0, 5), 0);
            x.brings(0, 0, 30);
            x.brings(0, 1, 40);
            t.same("nothing yet", x.market(0, 5), 0);
            x.lays(0, 0, 3);
            x.lays(0, 1, 4);
            t.same("both", x.market(0, 5), 7);
            t.same("not there", x.market(1, 5), 0);
        });
        e.edge("d its number", () -> {
            ShellsByLoad x = Checks.coast("5;5;5;5;5;5", ".", "d");
            for (int i = 0; i < 6; i++) {
                t.same("d", x.market(i, 5), i);
            }
        });
    }

    private void price() {
        e.edge("put to 0 .. 99999: PRICE", () -> {
            price("0-1", 0);
            price("0-999*999", 0);
            price("0", 0);
            price("1", 1);
            price("100*999+98", 99998);
            price("100*999+99", 99999);
            price("100*999+100", 99999);
            price("999*999", 99999);
        });
        e.edge("As ints,", () -> {
            price("256*256*256*256+7", 7);
            price("256*256*256*128", 0);
            price("256*256*256*128-1", 99999);
            price("-(256*256*256*128)", 0);
            price("(256*256*256*128)/-1", 0);
            price("(256*256*256*128)<1", 1);
            price("-(256*256*256*128)<1", 1);
            price("999*999*999*999", 0);
            price("(0-200)*999+999*200+5", 5);
        });
    }

    private void month() {
        e.edge("If THE PORT is open, its LOAD lands", () -> {
            ShellsByLoad x = Checks.coast("5", "o1");
            x.port();
            x.months(3);
            t.same("closed", x.market(0, 1), 0);
            x.port();
            x.months(3);
            t.same("open", x.market(0, 1), 30);
        });
        e.edge("OLD (NEW) of MARKET 0 is so much more (99999 at most).", () -> {
            for (String load : new String[] {"o999", "n999"}) {
                ShellsByLoad x = Checks.coast("5", load);
                int what = load.charAt(0) == 'o' ? 1 : 2;
                x.months(10);
                t.same("ten", x.market(0, what), 99900);
                x.months(1);
                t.same("at most", x.market(0, what), 99999);
                t.same("the other kind", x.market(0, 3 - what), 0);
            }
        });
        e.edge("MONTH is 1 more.", () -> {
            ShellsByLoad x = Checks.coast("5");
            x.months(1);
            t.same("open", x.count(2), 1);
            x.port();
            x.months(1);
            t.same("closed", x.count(2), 2);
        });
    }

    private void flowing() {
        e.edge("FLOW tenths (cut) of OLD and of NEW of each MARKET but the last go to the next one", () -> {
            ShellsByLoad x = Checks.coast("1;1;1");
            x.brings(0, 0, 14);
            x.brings(0, 1, 15);
            x.brings(1, 0, 4);
            x.brings(2, 1, 100);
            x.months(1);
            int[][] due = {{12, 12}, {4 + 2, 3}, {0, 100}};
            for (int i = 0; i < 3; i++) {
                t.same("OLD of " + i, x.market(i, 1), due[i][0]);
                t.same("NEW of " + i, x.market(i, 2), due[i][1]);
            }
            ShellsByLoad one = Checks.coast("1");
            one.brings(0, 0, 100);
            one.months(5);
            t.same("the only one is the last", one.market(0, 1), 100);
        });
        e.edge("(99999 there at most), all at once", () -> {
            for (int kind = 0; kind < 2; kind++) {
                ShellsByLoad x = Checks.coast("1;1");
                for (int i = 0; i < 11; i++) {
                    x.brings(0, kind, 9999);
                    x.brings(1, kind, i < 9 ? 9999 : 4);
                }
                x.months(1);
                t.same("the next one", x.market(1, 1 + kind), 99999);
                t.same("what went is gone", x.market(0, 1 + kind), 80000);
            }
        });
        e.edge(", by what was there behind (1)", () -> {
            ShellsByLoad x = Checks.coast("1;1;1;1", "o10");
            for (int i = 0; i < 4; i++) {
                x.brings(i, 0, 100 * (i + 1));
            }
            x.months(1);
            int[] due = {200 - 40, 200 - 40 + 40, 300 - 60 + 40, 400 + 60};
            for (int i = 0; i < 4; i++) {
                t.same("OLD of " + i, x.market(i, 1), due[i]);
            }
        });
    }

    private void row() {
        e.edge("ROW: numbers told last by a call that says so.", () -> {
            ShellsByLoad x = EdgesOfRow.busy();
            x.strings(2087, 2);
            Checks.Call[] all = EdgesOfRow.withoutRow(x);
            for (int i = 0; i < all.length; i++) {
                t.same("call " + i + " is answered", all[i].answer() >= 0, true);
                t.row("behind call " + i, x, 7, 2);
            }
            x.rests(0);
            t.row("rests() says so", x, 0, 0);
        });
        e.edge("Sets are bits.", () -> {
            ShellsByLoad x = Checks.coast("1;1;1;1;1;1", "o1", "m*(d=1)+m*(d=5)+9-m*(d=4)");
            t.told("MARKETS 1 and 5, MARKET 4", x, x.rises(1), 2 + 32, 16);
            t.told("LINES 1, 3 and 8", x, Checks.pays(x, "1;50;10;50;50;50;50;100", 111), 3, 1 + 4 + 128);
        });
        e.edge("Rows are compared from the first number on.", () -> {
            ShellsByLoad x = Checks.coast("1;1;1", ".", "2+(d=2)*5");
            t.told("0 2 1 is less than 2 0 1", x, x.caravan(100), 350, 0, 2, 1);
            Checks.rule(x, "5");
            t.told("0 1 is less than 1 0", x, x.trade(7), 7, 0, 1);
        });
        e.edge("Fractions are told in lowest terms, upper and lower number (0 by 1).", () -> {
            ShellsByLoad x = new ShellsByLoad();
            t.told("25 of 100", x, x.sound(5, 2, 5), 0, 1, 4);
            t.told("0 of 1000", x, x.sound(5, 3, 10), 0, 0, 1);
            t.told("1000 of 1000", x, x.sound(5, 3, 0), 0, 1, 1);
            t.told("0 of 6", x, x.finds(4, 0, 2), 0, 0, 1);
            t.told("4 of 6", x, x.finds(4, 1, 2), 0, 1, 2);
        });
        e.edge("Questions change nothing.", () -> {
            ShellsByLoad x = EdgesOfRow.busy();
            Checks.Call[] all = EdgesOfRow.questions(x);
            for (int i = 0; i < all.length; i++) {
                t.changesNothing("question " + i, x, all[i]);
            }
        });
        e.edge("a number below 0 that is meant as such comes with its ROW.", () -> {
            ShellsByLoad x = Checks.coast("1", ".", "9");
            t.told("-1", x, Checks.law(x, "8"), -1, 8, 9);
            t.told("-2", x, Checks.law(x, "7"), -2, 7, 9);
            t.told("-3", x, Checks.law(x, "6"), -3, 6, 9);
            Checks.rule(x, "999*999");
            t.told("-99999", x, Checks.law(x, "0"), -99999, 0, 99999);
        });
    }

    private void refused() {
        e.edge("Refused calls answer NONE, or false,", () -> {
            ShellsByLoad x = EdgesOfRow.busy();
            Checks.Call[] all = EdgesOfRow.refused(x);
            for (int i = 0; i < all.length; i++) {
                t.same("refused call " + i, all[i].answer(), -1);
            }
            t.same("end", x.end(MAX), false);
            t.same("keep", x.keep(MIN), false);
            t.same("again", x.again(2), false);
        });
        e.edge("and change nothing but THE TEXT,", () -> {
            ShellsByLoad x = EdgesOfRow.busy();
            t.refuses("refused", x, -1, EdgesOfRow.refused(x));
            t.refuses("refused", x, 0, () -> x.end(-1) ? 1 : 0, () -> x.keep(3) ? 1 : 0, () -> x.again(2) ? 1 : 0);
            Checks.say(x, "");
            t.refuses("bad texts", x, -3, () -> Checks.markets(x, "5;x"), () -> Checks.ships(x, "o5x"),
                    () -> Checks.rule(x, "5+x"), () -> Checks.year(x, "m5x"), () -> Checks.pays(x, "5;x", 5));
        });
        e.edge("which a call that reads it empties.", () -> {
            ShellsByLoad x = EdgesOfRow.busy();
            String[] texts = {"5", "o5", "5", "p", "5", "5", "?", "o5?", "5?", "p?", "5?", "5?"};
            for (int i = 0; i < texts.length; i++) {
                Checks.say(x, texts[i]);
                int kind = i % 6;
                int answer = kind == 0 ? x.markets() : kind == 1 ? x.ships() : kind == 2 ? x.rule()
                        : kind == 3 ? x.year() : kind == 4 ? x.pays(5) : x.law();
                t.same("refused, call " + i, answer == -1000001 || answer < 0 && kind < 5, i >= 6);
                t.same("THE TEXT behind call " + i, x.count(12), 0);
            }
            Checks.say(x, "5?");
            x.months(61);
            x.brings(9, 9, 9);
            t.same("a call that does not read it", x.count(12), 2);
        });
        e.edge("The ROW stays with NONE", () -> {
            ShellsByLoad x = EdgesOfRow.busy();
            x.strings(2087, 2);
            for (Checks.Call call : EdgesOfRow.refused(x)) {
                call.answer();
                t.row("behind NONE", x, 7, 2);
            }
        });
        e.edge("and with each number below 0 that tells why there is no answer (-2, -3 ..)", () -> {
            ShellsByLoad x = EdgesOfRow.busy();
            x.strings(2087, 2);
            for (Checks.Call call : EdgesOfRow.withoutAnswer(x)) {
                t.same("below NONE", call.answer() < -1, true);
                t.row("behind it", x, 7, 2);
            }
            ShellsByLoad none = new ShellsByLoad();
            none.strings(2087, 2);
            t.same("grows()", none.grows(1), -2);
            t.same("reign()", none.reign(1, 1, 0), -2);
            t.same("caravan()", none.caravan(1), -2);
            t.row("without MARKETS", none, 7, 2);
        });
    }
}
