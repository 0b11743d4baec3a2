import java.math.BigInteger;
import java.util.ArrayDeque;
import java.util.ArrayList;
import java.util.Arrays;
import java.util.Deque;
import java.util.List;
import java.util.NoSuchElementException;
import java.util.function.IntUnaryOperator;
import java.util.regex.Matcher;
import java.util.regex.Pattern;

/**
 * The document once more, in the plainest way and with all of the Java library: the random runs compare
 * both. Texts are judged by regular expressions here (a prefix can go on if the matcher hit its end).
 */
public final class PlainShells {
    private static final String GOODS = "(0?[1-9]|[1-9][0-9])";
    private static final Pattern SHIPS = Pattern.compile("(\\.|[on][0-9]{1,3}){1,8}");
    private static final Pattern YEAR = Pattern.compile("(m[0-9]|t[0-9][1-9]|b[0-9]|p|f[0-9]|[ls][0-9][on][1-9])*");
    private static final Pattern PURSE = Pattern.compile(lines("(0{0,2}[1-9]|0?[1-9][0-9]|[1-9][0-9]{2})", 8));
    private static final Pattern RULE = Pattern.compile(expression(4));

    private static final class State {
        List<int[]> shells = new ArrayList<>();
        int flow = 2;
        int month = 0;
        int treasury = 0;
        boolean closed = false;

        State copy() {
            State s = new State();
            for (int[] m : shells) {
                s.shells.add(m.clone());
            }
            s.flow = flow;
            s.month = month;
            s.treasury = treasury;
            s.closed = closed;
            return s;
        }
    }

    private String text = "";
    private long[] row = {};
    private State now = new State();
    private final List<Integer> goods = new ArrayList<>();
    private List<int[]> ships = new ArrayList<>(List.of(new int[] {-1, 0}));
    private String theRule = "";
    private final Deque<State> past = new ArrayDeque<>();
    private final State[] kept = new State[3];
    private final List<int[]> heard = new ArrayList<>();

    private static String lines(String line, int most) {
        return line + "(;" + line + "){0," + (most - 1) + "}";
    }

    private static String expression(int deep) {
        String thing = "([0-9]{1,3}|[ongdmh]" + (deep == 0 ? "" : "|\\(" + expression(deep - 1) + "\\)") + ")";
        String sum = "-*" + thing + "([-+*/]-*" + thing + ")*";
        return sum + "([<>=]" + sum + ")?";
    }

    /** -1, or the place of the sign that can't stand there. */
    private static int bad(String told, Pattern pattern, int most) {
        String first = told.substring(0, Math.min(most, told.length()));
        for (int n = 1; n <= first.length(); n++) {
            Matcher m = pattern.matcher(first.substring(0, n));
            if (!m.matches() && !m.hitEnd()) {
                return n - 1;
            }
        }
        if (told.length() > most) {
            return most;
        }
        return pattern.matcher(first).matches() ? -1 : first.length();
    }

    /** As bad(), but a number 0 is bad at its last digit, whatever stands behind it. */
    private static int badLines(String told, Pattern pattern, int most) {
        int p = bad(told, pattern, most);
        if (p > 0 && p <= told.length() && told.charAt(p - 1) == '0') {
            int from = told.lastIndexOf(';', p - 1) + 1;
            if (told.substring(from, p).matches("0+") && !(p < told.length() && told.charAt(p) == '0')) {
                return p - 1;
            }
        }
        return p;
    }

    private String read() {
        String was = text;
        text = "";
        return was;
    }

    private static boolean in(int v, int a, int b) {
        return a <= v && v <= b;
    }

    private boolean is(int market) {
        return in(market, 0, goods.size() - 1);
    }

    private int tell(int answer, long... numbers) {
        row = numbers;
        return answer;
    }

    // ---- prices

    private static final class Reader {
        private final String s;
        private final IntUnaryOperator letter;
        private int p = 0;

        Reader(String s, IntUnaryOperator letter) {
            this.s = s;
            this.letter = letter;
        }

        private boolean next(String of) {
            return p < s.length() && of.indexOf(s.charAt(p)) >= 0;
        }

        int expression() {
            int a = sum();
            if (!next("<>=")) {
                return a;
            }
            char c = s.charAt(p++);
            int b = sum();
            return (c == '<' ? a < b : c == '>' ? a > b : a == b) ? 1 : 0;
        }

        int sum() {
            int a = product();
            while (next("+-")) {
                a = s.charAt(p++) == '+' ? a + product() : a - product();
            }
            return a;
        }

        int product() {
            int a = minus();
            while (next("*/")) {
                boolean times = s.charAt(p++) == '*';
                int b = minus();
                a = times ? a * b : b == 0 ? 0 : a / b;
            }
            return a;
        }

        int minus() {
            if (next("-")) {
                p++;
                return -minus();
            }
            if (next("(")) {
                p++;
                int a = expression();
                p++;
                return a;
            }
            int from = p;
            while (next("0123456789")) {
                p++;
            }
            return p > from ? Integer.parseInt(s.substring(from, p)) : letter.applyAsInt(s.charAt(p++));
        }
    }

    private int price(String rule, State s, int market) {
        int[] at = s.shells.get(market);
        String told = rule.isEmpty() ? "(o*2+n)/g" : rule;
        int value = new Reader(told, c -> switch (c) {
            case 'o' -> at[0];
            case 'n' -> at[1];
            case 'g' -> goods.get(market);
            case 'd' -> market;
            case 'm' -> s.month % 12;
            default -> at[2] + at[3];
        }).expression();
        return Math.min(99999, Math.max(0, value));
    }

    private int price(State s, int market) {
        return price(theRule, s, market);
    }

    private State in(int n) {
        State s = now.copy();
        for (int i = 0; i < n; i++) {
            month(s);
        }
        return s;
    }

    private int month(State s) {
        int landed = 0;
        if (!s.closed && !s.shells.isEmpty()) {
            int[] load = ships.get(s.month % ships.size());
            if (load[0] >= 0) {
                int were = s.shells.get(0)[load[0]];
                landed = were + load[1] > 99999 ? 99999 - were : load[1];
                s.shells.get(0)[load[0]] = were + landed;
            }
        }
        State was = s.copy();
        for (int i = 0; i < s.shells.size(); i++) {
            for (int kind = 0; kind < 2; kind++) {
                int v = was.shells.get(i)[kind];
                if (i < s.shells.size() - 1) {
                    v -= v * s.flow / 10;
                }
                if (i > 0) {
                    v += was.shells.get(i - 1)[kind] * s.flow / 10;
                }
                s.shells.get(i)[kind] = Math.min(99999, v);
            }
        }
        s.month++;
        return landed;
    }

    private static int parted(int v, int price) {
        return price == 0 ? 9999 : v / price;
    }

    // ---- markets, ships

    public int sign(int v) {
        if (text.length() > 76) {
            return -1;
        }
        for (int i = 3; i >= 0; i--) {
            text += (char) (v >> 8 * i & 255);
        }
        return text.length();
    }

    public boolean end(int n) {
        if (n < 0 || n > text.length()) {
            return false;
        }
        text = text.substring(0, n);
        return true;
    }

    public int markets() {
        String told = read();
        if (told.isEmpty()) {
            return 0;
        }
        int room = 6 - goods.size();
        if (room == 0) {
            return -1;
        }
        int p = badLines(told, Pattern.compile(lines(GOODS, room)), 17);
        if (p >= 0) {
            boolean noRoom = told.charAt(Math.min(p, told.length() - 1)) == ';'
                    && told.substring(0, p).split(";", -1).length == room
                    && told.substring(told.lastIndexOf(';', p - 1) + 1, p).matches(GOODS);
            return noRoom && p < 17 ? -1 - (p + 1) : -1 - p;
        }
        for (String line : told.split(";")) {
            goods.add(Integer.parseInt(line));
            now.shells.add(new int[4]);
        }
        past.clear();
        return told.split(";").length;
    }

    public int ships() {
        String told = read();
        int p = bad(told, SHIPS, 32);
        if (p >= 0) {
            return -1 - p;
        }
        ships = new ArrayList<>();
        Matcher m = Pattern.compile("\\.|([on])([0-9]+)").matcher(told);
        while (m.find()) {
            ships.add(m.group(1) == null ? new int[] {-1, 0}
                    : new int[] {m.group(1).equals("o") ? 0 : 1, Integer.parseInt(m.group(2)) * 10});
        }
        return ships.size();
    }

    public int rule() {
        String told = read();
        int p = told.isEmpty() ? -1 : bad(told, RULE, 40);
        if (p >= 0) {
            return -1 - p;
        }
        theRule = told;
        return 0;
    }

    public int market(int market, int what) {
        if (!is(market) || !in(what, 0, 5)) {
            throw new NoSuchElementException();
        }
        return what == 0 ? goods.get(market) : what == 5 ? price(now, market) : now.shells.get(market)[what - 1];
    }

    public int load(int i, int what) {
        if (!in(i, 0, ships.size() - 1) || !in(what, 0, 1)) {
            throw new NoSuchElementException();
        }
        return ships.get(i)[what];
    }

    public int sheet(int kind, int n, int f, int step) {
        if (kind < 0 || kind > 3 || n > 6) {
            return -1;
        }
        if (kind < 3 && n < 0) {
            return -2;
        }
        int sum = 0;
        for (int i = 0; i < goods.size(); i++) {
            int v = f + i * step;
            v = kind == 0 ? (v << 24) >> 24 : kind == 1 ? (v << 16) >> 16 : v;
            goods.set(i, kind == 3 || i >= n ? 1 : Math.min(99, Math.max(1, v)));
            sum += goods.get(i);
        }
        return kind == 3 ? -3 : sum;
    }

    // ---- months

    private void done(State before) {
        past.addLast(before);
        if (past.size() > 15) {
            past.removeFirst();
        }
    }

    private interface Deed {
        int on(State s);
    }

    private int deed(Deed deed) {
        State before = now.copy();
        int answer = deed.on(now);
        if (answer < 0) {
            now = before;
        } else {
            done(before);
        }
        return answer;
    }

    public int months(int n) {
        if (!in(n, 0, 60)) {
            return -1;
        }
        long[] landed = {0};
        deed(s -> {
            for (int i = 0; i < n; i++) {
                landed[0] += month(s);
            }
            return 0;
        });
        return goods.isEmpty() ? tell(0, landed[0], 0)
                : tell(price(now, 0), landed[0], price(now, goods.size() - 1));
    }

    public int brings(int market, int kind, int n) {
        return !is(market) || !in(kind, 0, 1) || !in(n, 1, 9999) ? -1
                : deed(s -> s.shells.get(market)[kind] = Math.min(99999, s.shells.get(market)[kind] + n));
    }

    private int lay(State s, int market, int kind, int n) {
        if (!is(market) || !in(kind, 0, 1) || !in(n, 1, 9999)) {
            return -1;
        }
        int[] at = s.shells.get(market);
        if (at[kind] < n) {
            return -2;
        }
        if (at[kind + 2] + n > 99999) {
            return -3;
        }
        at[kind] -= n;
        return at[kind + 2] += n;
    }

    private int spend(State s, int market, int kind, int n) {
        if (!is(market) || !in(kind, 0, 1) || !in(n, 1, 9999)) {
            return -1;
        }
        int[] at = s.shells.get(market);
        if (at[kind + 2] < n) {
            return -2;
        }
        at[kind] = Math.min(99999, at[kind] + n);
        return at[kind + 2] -= n;
    }

    private int tax(State s, int market, int t) {
        if (!is(market) || !in(t, 1, 9)) {
            return -1;
        }
        int[] at = s.shells.get(market);
        int old = at[0] * t / 10;
        int fresh = at[1] * t / 10;
        at[0] -= old;
        at[1] -= fresh;
        return s.treasury = Math.min(999999, s.treasury + old + fresh);
    }

    private int burn(State s, int market) {
        if (!is(market)) {
            return -1;
        }
        int v = s.shells.get(market)[1];
        s.shells.get(market)[1] = 0;
        return v > 0 ? v : -2;
    }

    private int turn(State s) {
        return (s.closed = !s.closed) ? 1 : 0;
    }

    private int stream(State s, int v) {
        int was = s.flow;
        s.flow = in(v, 0, 9) ? v : was;
        return in(v, 0, 9) ? was : -1;
    }

    public int lays(int market, int kind, int n) {
        return deed(s -> lay(s, market, kind, n));
    }

    public int spends(int market, int kind, int n) {
        return deed(s -> spend(s, market, kind, n));
    }

    public int taxes(int market, int t) {
        return deed(s -> tax(s, market, t));
    }

    public int burns(int market) {
        return deed(s -> burn(s, market));
    }

    public int port() {
        return deed(this::turn);
    }

    public int flow(int v) {
        return deed(s -> stream(s, v));
    }

    public int year() {
        String told = read();
        int p = bad(told, YEAR, 60);
        if (p >= 0) {
            return -1 - p;
        }
        State before = now.copy();
        int acts = 0;
        int refused = 0;
        List<String> all = new ArrayList<>();
        Matcher each = Pattern.compile("m.|t..|b.|p|f.|[ls]...").matcher(told);
        while (each.find()) {
            all.add(each.group());
        }
        for (String act : all) {
            State was = now.copy();
            if (act(now, act) < 0) {
                now = was;
                refused = 1;
                break;
            }
            acts++;
        }
        if (acts > 0) {
            done(before);
        }
        return tell(acts, refused, now.treasury);
    }

    private int act(State s, String act) {
        int first = act.length() > 1 ? act.charAt(1) - '0' : 0;
        int last = act.charAt(act.length() - 1) - '0';
        int kind = act.length() > 2 && act.charAt(2) == 'n' ? 1 : 0;
        switch (act.charAt(0)) {
            case 'm':
                for (int i = 0; i < first; i++) {
                    month(s);
                }
                return 0;
            case 't':
                return tax(s, first, last);
            case 'b':
                return burn(s, first);
            case 'p':
                return turn(s);
            case 'f':
                return stream(s, first);
            case 'l':
                return lay(s, first, kind, last * 100);
            default:
                return spend(s, first, kind, last * 100);
        }
    }

    public int undo() {
        if (past.isEmpty()) {
            return -1;
        }
        now = past.removeLast();
        return past.size();
    }

    // ---- prices

    public int ahead(int market, int n) {
        if (!is(market) || !in(n, 0, 99)) {
            return -1;
        }
        State s = in(n);
        return tell(price(s, market), s.shells.get(market)[0], s.shells.get(market)[1]);
    }

    public int doubles(int market) {
        if (!is(market)) {
            return -1;
        }
        int p = price(now, market);
        State s = now.copy();
        for (int n = 1; n < 100; n++) {
            month(s);
            int then = price(s, market);
            if (p == 0 ? then > 0 : then >= 2 * p) {
                return tell(n, then);
            }
        }
        return -2;
    }

    public int trade(int v) {
        if (!in(v, 1, 9999)) {
            return -1;
        }
        if (goods.size() < 2) {
            return tell(v);
        }
        long most = -1;
        long[] best = {};
        for (int a = goods.size() - 1; a >= 0; a--) {
            for (int b = goods.size() - 1; b >= 0; b--) {
                if (a != b) {
                    int p = price(now, a);
                    long q = p == 0 ? 0 : v / p;
                    long has = v - q * p + q * price(in(Math.abs(a - b)), b);
                    if (has >= most) {
                        most = has;
                        best = new long[] {a, b};
                    }
                }
            }
        }
        return tell((int) most, best);
    }

    public int buys(int kind, int market, int v, int n) {
        if (!in(kind, 0, 4) || !is(market) || !in(v, 0, 9999) || !in(n, 0, 60)) {
            return -1;
        }
        int p = price(now, market);
        State first = now.copy();
        first.month = 0;
        Arrays.fill(first.shells.get(market), 0);
        int[] all = {parted(v, p), parted(v, price(first, market)), parted(v, p / 2), parted(v, price(in(n), market)),
            parted(v / 2, p)};
        return all[kind];
    }

    public int best(int market, int v, int n) {
        int best = 4;
        for (int kind = 4; kind >= 0; kind--) {
            best = buys(kind, market, v, n) >= buys(best, market, v, n) ? kind : best;
        }
        int most = buys(best, market, v, n);
        return most < 0 ? -1 : tell(best, most);
    }

    public int closes(int market, int n, int c) {
        if (!is(market) || !in(n, 1, 8) || !in(c, 0, 8)) {
            return -1;
        }
        int least = Integer.MAX_VALUE;
        int chosen = 0;
        for (int bits = 0; bits <= Math.min(n, c); bits++) {
            for (int set = 0; set < 1 << n; set++) {
                if (Integer.bitCount(set) == bits) {
                    State s = now.copy();
                    for (int i = 0; i < n; i++) {
                        s.closed = (set & 1 << i) != 0;
                        month(s);
                    }
                    if (price(s, market) < least) {
                        least = price(s, market);
                        chosen = set;
                    }
                }
            }
        }
        return tell(least, chosen);
    }

    public int grows(int n) {
        if (!in(n, 1, 60)) {
            return -1;
        }
        int best = -2;
        int most = 0;
        State s = in(n);
        for (int i = goods.size() - 1; i >= 0; i--) {
            int by = price(s, i) - price(now, i);
            if (best < 0 || by >= most) {
                best = i;
                most = by;
            }
        }
        return best < 0 ? best : tell(best, most);
    }

    public int reign(int n, int t, int v) {
        if (!in(n, 1, 8) || !in(t, 1, 9) || !in(v, 0, 99999)) {
            return -1;
        }
        int most = -2;
        int chosen = 0;
        for (int bits = 0; bits <= n && !goods.isEmpty(); bits++) {
            for (int set = 0; set < 1 << n; set++) {
                if (Integer.bitCount(set) == bits) {
                    State s = now.copy();
                    for (int i = 0; i < n; i++) {
                        month(s);
                        if ((set & 1 << i) != 0) {
                            tax(s, 0, t);
                        }
                    }
                    if (price(s, 0) >= v && s.treasury > most) {
                        most = s.treasury;
                        chosen = set;
                    }
                }
            }
        }
        return most < 0 ? -2 : tell(most, chosen);
    }

    public int melts(int market, int v, int g) {
        if (!is(market) || !in(v, 0, 9999) || !in(g, 1, 99)) {
            return -1;
        }
        State s = now.copy();
        for (int n = 0; n <= 99; n++, month(s)) {
            int has = parted(v, price(s, market));
            if (has < g) {
                return tell(n, has);
            }
        }
        return -2;
    }

    public int when(int market, int n) {
        if (!is(market) || !in(n, 0, 60)) {
            return -1;
        }
        int hoard = now.shells.get(market)[2] * 2 + now.shells.get(market)[3];
        int best = n;
        for (int i = n; i >= 0; i--) {
            if (parted(hoard, price(in(i), market)) >= parted(hoard, price(in(best), market))) {
                best = i;
            }
        }
        return tell(best, parted(hoard, price(in(best), market)));
    }

    public int rises(int n) {
        if (!in(n, 1, 60)) {
            return -1;
        }
        int more = 0;
        int less = 0;
        State s = in(n);
        for (int i = 0; i < goods.size(); i++) {
            more += price(s, i) > price(now, i) ? 1 << i : 0;
            less += price(s, i) < price(now, i) ? 1 << i : 0;
        }
        return tell(more, less);
    }

    public int caravan(int v) {
        if (!in(v, 1, 9999)) {
            return -1;
        }
        if (goods.isEmpty()) {
            return -2;
        }
        long[] best = go(0, v, 0, new long[goods.size()]);
        return tell((int) best[0], Arrays.copyOfRange(best, 1, best.length));
    }

    private long[] go(int market, long shells, long carried, long[] deeds) {
        if (market == goods.size()) {
            long[] end = new long[deeds.length + 1];
            end[0] = shells;
            System.arraycopy(deeds, 0, end, 1, deeds.length);
            return end;
        }
        long p = price(in(market), market);
        long[] best = null;
        for (int deed = 0; deed < 3; deed++) {
            long[] with = deeds.clone();
            with[market] = deed;
            long bought = deed == 2 && p > 0 ? shells / p : 0;
            long[] end = deed == 1 ? go(market + 1, Math.min(999999999, shells + carried * p), 0, with)
                    : go(market + 1, shells - bought * p, carried + bought, with);
            best = best == null || end[0] > best[0] ? end : best;
        }
        return best;
    }

    // ---- counting

    public int strings(int v, int k) {
        return !in(v, 0, 99999) || !in(k, 1, 9) ? -1
                : tell(v / 40, v % 40, (int) Math.ceil(v / 40 / (25.0 * k)));
    }

    public int counts(int v, int w) {
        if (!in(v, 0, 9999) || !in(w, 1, 99)) {
            return -1;
        }
        int from = 0;
        for (int price = 0; price <= 9999; price++) {
            if ((price + 99) / 100 * w > price) {
                from = price + 1;
            }
        }
        int has = (v + 99) / 100 * w;
        return tell(has, has > v ? 1 : 0, from);
    }

    public int pays(int v) {
        String told = read();
        if (!in(v, 0, 9999)) {
            return -20000;
        }
        int[] purse = {};
        if (!told.isEmpty()) {
            int p = badLines(told, PURSE, 80);
            if (p >= 0) {
                boolean ninth = p < told.length() && told.charAt(p) == ';' && p > 0 && told.charAt(p - 1) != ';'
                        && told.substring(0, p).split(";", -1).length == 8;
                return ninth ? -1 - (p + 1) : -1 - p;
            }
            purse = Arrays.stream(told.split(";")).mapToInt(Integer::parseInt).toArray();
        }
        for (int few = 0; few <= 8; few++) {
            for (int set = 0; set < 1 << purse.length; set++) {
                int sum = 0;
                for (int i = 0; i < purse.length; i++) {
                    sum += (set & 1 << i) != 0 ? purse[i] : 0;
                }
                if (Integer.bitCount(set) == few && sum == v) {
                    return tell(few, set);
                }
            }
        }
        return -10000;
    }

    public int bearers(int v, int market) {
        int k = (v + 399) / 400;
        return !in(v, 0, 99999) || !is(market) ? -1 : tell(k, Math.max(0, v - k * market * 10));
    }

    // ---- how many it was

    public int left(int a, int b) {
        if (!in(a, 2, 40) || !in(b, 0, a - 1) || heard.size() == 8) {
            return -1;
        }
        heard.add(new int[] {a, b});
        return heard.size();
    }

    public int forget() {
        int were = heard.size();
        heard.clear();
        return were;
    }

    private int[] fitting() {
        return java.util.stream.IntStream.rangeClosed(1, 999)
                .filter(x -> heard.stream().allMatch(h -> x % h[0] == h[1])).toArray();
    }

    public int fits() {
        int[] all = fitting();
        return all.length == 0 ? tell(0) : tell(all.length, all[0], all[all.length - 1]);
    }

    public int ask() {
        int[] all = fitting();
        int best = -2;
        int fewest = 1000;
        for (int a = 2; a <= 40 && all.length > 0; a++) {
            int[] by = new int[a];
            for (int x : all) {
                by[x % a]++;
            }
            int most = Arrays.stream(by).max().getAsInt();
            if (most < fewest) {
                fewest = most;
                best = a;
            }
        }
        return best < 0 ? best : tell(best, fewest);
    }

    // ---- chances, laws

    private int fraction(BigInteger upper, BigInteger lower) {
        BigInteger d = upper.gcd(lower);
        return tell(0, upper.divide(d).longValueExact(), lower.divide(d).longValueExact());
    }

    public int sound(int n, int k, int p) {
        return !in(n, 1, 10) || !in(k, 0, n) || !in(p, 0, 10) ? -1
                : fraction(BigInteger.valueOf(10 - p).pow(k), BigInteger.TEN.pow(k));
    }

    public int finds(int n, int s, int k) {
        if (!in(n, 1, 30) || !in(s, 0, n) || !in(k, 0, n)) {
            return -1;
        }
        BigInteger none = BigInteger.ONE;
        BigInteger all = BigInteger.ONE;
        for (int i = 0; i < k; i++) {
            none = none.multiply(BigInteger.valueOf(Math.max(0, n - s - i)));
            all = all.multiply(BigInteger.valueOf(n - i));
        }
        return fraction(all.subtract(none), all);
    }

    public int law() {
        String told = read();
        int p = told.isEmpty() ? -1 : bad(told, RULE, 40);
        if (p >= 0) {
            return -1000000 - p;
        }
        int a = 0;
        int b = 0;
        for (int i = 0; i < goods.size(); i++) {
            a += price(told, now, i);
            b += price(now, i);
        }
        return tell(a - b, a, b);
    }

    // ---- rests, years

    private static int own(int x, int y, int v) {
        return x * (v - (18 - x - y) / 2) + 2 * (9 - x);
    }

    public int rests(int v) {
        if (!in(v, 0, 9)) {
            return -1;
        }
        List<long[]> found = new ArrayList<>();
        for (int x = 0; x < 10; x++) {
            for (int y = 0; y < 10; y++) {
                boolean rests = true;
                for (int z = 0; z < 10; z++) {
                    rests = rests && own(z, y, v) <= own(x, y, v) && own(z, x, v) <= own(y, x, v);
                }
                if (rests) {
                    found.add(new long[] {x, y});
                }
            }
        }
        return tell(found.size(), found.isEmpty() ? new long[0] : found.get(0));
    }

    public int years(int seed, int n) {
        if (!in(n, 1, 60)) {
            return -1;
        }
        State s = now.copy();
        int[] r = {seed};
        IntUnaryOperator draw = of -> {
            r[0] = r[0] * 1103515245 + 12345;
            return (int) (Integer.toUnsignedLong(r[0]) / 65536 % of);
        };
        for (int i = 0; i < n; i++) {
            int drawn = draw.applyAsInt(5);
            if (drawn < 2) {
                month(s);
            } else if (drawn == 4) {
                turn(s);
            } else if (!goods.isEmpty()) {
                int market = draw.applyAsInt(goods.size());
                if (drawn == 2) {
                    tax(s, market, 1);
                } else {
                    s.shells.get(market)[1] = Math.min(99999, s.shells.get(market)[1] + draw.applyAsInt(100));
                }
            }
        }
        return tell(s.treasury, sum(s, 0), sum(s, 1));
    }

    private static int sum(State s, int what) {
        return s.shells.stream().mapToInt(m -> m[what]).sum();
    }

    // ---- kept

    public boolean keep(int i) {
        if (in(i, 0, 2)) {
            kept[i] = now.copy();
        }
        return in(i, 0, 2);
    }

    public boolean again(int i) {
        if (!in(i, 0, 2) || kept[i] == null || kept[i].shells.size() != goods.size()) {
            return false;
        }
        now = kept[i].copy();
        past.clear();
        return true;
    }

    public int count(int what) {
        int[] all = {goods.size(), ships.size(), now.month, now.flow, now.treasury, now.closed ? 1 : 0, sum(now, 0),
            sum(now, 1), sum(now, 2) + sum(now, 3), heard.size(), past.size(), row.length, text.length()};
        return in(what, 0, 12) ? all[what] : -100;
    }

    public long row(int i) {
        if (!in(i, 0, row.length - 1)) {
            throw new NoSuchElementException();
        }
        return row[i];
    }
}
