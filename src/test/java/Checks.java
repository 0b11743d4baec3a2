import java.util.Arrays;
import java.util.NoSuchElementException;

/** What the tests share: counting what passes, telling texts, looking at all that an object shows. */
final class Checks {
    static final long THROWS = Long.MIN_VALUE;

    private int passed = 0;
    private int failed = 0;
    private boolean good = true;
    private String name = "";

    interface Body {
        void run();
    }

    interface Call {
        long answer();
    }

    void test(String title, Body body) {
        name = title;
        good = true;
        try {
            body.run();
        } catch (RuntimeException | Error e) {
            wrong("threw " + e);
        }
        if (good) {
            passed++;
        } else {
            failed++;
        }
    }

    void finish() {
        System.out.println(passed + " passed, " + failed + " failed");
        System.exit(failed == 0 ? 0 : 1);
    }

    void wrong(String what) {
        good = false;
        System.out.println(name + ": " + what);
    }

    void same(String what, long got, long due) {
        if (got != due) {
            wrong(what + " answered " + got + ", due is " + due);
        }
    }

    void same(String what, boolean got, boolean due) {
        same(what, got ? 1 : 0, due ? 1 : 0);
    }

    void row(String what, ShellsByLoad x, long... due) {
        long[] got = rowOf(x);
        if (!Arrays.equals(got, due)) {
            wrong(what + " told the row " + Arrays.toString(got) + ", due is " + Arrays.toString(due));
        }
        same(what + ", a row's number too many", caught(() -> x.row(due.length)), THROWS);
    }

    /** An answer with its row. */
    void told(String what, ShellsByLoad x, long got, long due, long... row) {
        same(what, got, due);
        row(what, x, row);
    }

    void throwsNone(String what, Call call) {
        same(what, caught(call), THROWS);
    }

    /** Each call must answer so, and must leave all that the object shows as it is. */
    void refuses(String what, ShellsByLoad x, long due, Call... calls) {
        String before = shown(x);
        for (int i = 0; i < calls.length; i++) {
            same(what + ", call " + i, calls[i].answer(), due);
            String after = shown(x);
            if (!after.equals(before)) {
                wrong(what + ", call " + i + " changed " + before + " to " + after);
            }
        }
    }

    /** A question may change the row, nothing else. */
    void changesNothing(String what, ShellsByLoad x, Call call) {
        String before = shownButRow(x);
        call.answer();
        String after = shownButRow(x);
        if (!after.equals(before)) {
            wrong(what + " changed " + before + " to " + after);
        }
    }

    static long caught(Call call) {
        try {
            return call.answer();
        } catch (NoSuchElementException e) {
            return THROWS;
        }
    }

    static long[] rowOf(ShellsByLoad x) {
        long[] row = new long[x.count(11)];
        for (int i = 0; i < row.length; i++) {
            row[i] = x.row(i);
        }
        return row;
    }

    static String shownButRow(ShellsByLoad x) {
        StringBuilder all = new StringBuilder();
        for (int market = 0; market < x.count(0); market++) {
            for (int what = 0; what <= 5; what++) {
                all.append(x.market(market, what)).append(what == 5 ? '|' : ' ');
            }
        }
        for (int i = 0; i < x.count(1); i++) {
            all.append('L').append(x.load(i, 0)).append(',').append(x.load(i, 1));
        }
        for (int what = 2; what <= 12; what++) {
            all.append(what == 11 ? "" : " c" + what + "=" + x.count(what));
        }
        return all.toString();
    }

    static String shown(ShellsByLoad x) {
        return shownButRow(x) + " row " + Arrays.toString(rowOf(x));
    }

    /** THE TEXT becomes this one. */
    static void say(ShellsByLoad x, String text) {
        x.end(0);
        for (int i = 0; i < text.length(); i += 4) {
            int v = 0;
            for (int k = i; k < i + 4; k++) {
                v = v << 8 | (k < text.length() ? text.charAt(k) : 0);
            }
            x.sign(v);
        }
        x.end(text.length());
    }

    static int markets(ShellsByLoad x, String text) {
        say(x, text);
        return x.markets();
    }

    static int ships(ShellsByLoad x, String text) {
        say(x, text);
        return x.ships();
    }

    static int rule(ShellsByLoad x, String text) {
        say(x, text);
        return x.rule();
    }

    static int year(ShellsByLoad x, String text) {
        say(x, text);
        return x.year();
    }

    static int law(ShellsByLoad x, String text) {
        say(x, text);
        return x.law();
    }

    static int pays(ShellsByLoad x, String text, int v) {
        say(x, text);
        return x.pays(v);
    }

    static ShellsByLoad coast(String markets) {
        ShellsByLoad x = new ShellsByLoad();
        markets(x, markets);
        return x;
    }

    static ShellsByLoad coast(String markets, String ships) {
        ShellsByLoad x = coast(markets);
        ships(x, ships);
        return x;
    }

    static ShellsByLoad coast(String markets, String ships, String rule) {
        ShellsByLoad x = coast(markets, ships);
        rule(x, rule);
        return x;
    }
}
