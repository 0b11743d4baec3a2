import java.util.NoSuchElementException;

public final class ShellsByLoad {
    public static final int NONE = -1;

    private static final int FINE = -1;
    private static final int END = -1;
    private static final int OLD = 0;
    private static final int NEW = 1;
    private static final int MOST_MARKETS = 6;
    private static final int MOST_THERE = 99999;
    private static final int MOST_TREASURY = 999999;
    private static final int MOST_PRICE = 99999;
    private static final int MOST_CARRIED = 999999999;
    private static final int MOST_BROUGHT = 9999;
    private static final int MANY_GOODS = 9999;
    private static final int TEXT_SIGNS = 80;
    private static final int MARKETS_SIGNS = 17;
    private static final int SHIPS_SIGNS = 32;
    private static final int RULE_SIGNS = 40;
    private static final int YEAR_SIGNS = 60;
    private static final int MOST_LOADS = 8;
    private static final int MOST_STRINGS = 8;
    private static final int MOST_UNDONE = 15;
    private static final int MOST_KEPT = 3;
    private static final int MOST_HEARD = 8;
    private static final int MOST_GUESSED = 999;
    private static final int MOST_LAID_BY = 40;
    private static final int BASKETS = 9;
    private static final int FIRST_LETTER = 1000;
    private static final int FIRST_OPERATOR = 2000;
    private static final int LESS = 2000;
    private static final int MORE = 2001;
    private static final int SAME = 2002;
    private static final int PLUS = 2003;
    private static final int MINUS = 2004;
    private static final int TIMES = 2005;
    private static final int PARTED = 2006;
    private static final int NEGATED = 2007;
    private static final int OPENED = 2008;
    private static final int MOST_OPENED = 4;
    private static final String LETTERS = "ongdmh";
    private static final String OPERATORS = "<>=+-*/";
    // (o*2+n)/g as steps
    private static final int[] FIRST_RULE = {1000, 2, 2005, 1001, 2003, 1002, 2006};
    private static final int[] PLANS = {1, 3, 9, 27, 81, 243, 729};

    private final Text theText;
    private final Row theRow;
    private final Coast coast;
    private final Coast before;
    private final Coast trial;
    private final Past past;
    private final Coast[] kept;
    private final int[] goods;
    private final int[][] foreseen;
    private final Lines lines;
    private final Heard heard;
    private final Lot lot;
    private Fleet fleet;
    private Fleet spareFleet;
    private Rule theRule;
    private Rule spareRule;

    public ShellsByLoad() {
        theText = new Text();
        theRow = new Row();
        coast = new Coast();
        before = new Coast();
        trial = new Coast();
        past = new Past();
        kept = new Coast[MOST_KEPT];
        for (int i = 0; i < kept.length; i++) {
            kept[i] = new Coast();
            kept[i].size = NONE;
        }
        goods = new int[MOST_MARKETS];
        foreseen = new int[MOST_MARKETS][MOST_MARKETS];
        lines = new Lines();
        heard = new Heard();
        lot = new Lot();
        fleet = new Fleet();
        spareFleet = new Fleet();
        theRule = new Rule();
        spareRule = new Rule();
    }

    // ---- markets, ships

    public int sign(int v) {
        return theText.add(v) ? theText.length : NONE;
    }

    public boolean end(int n) {
        return theText.cut(n);
    }

    public int markets() {
        int bad = lines.read(theText, MARKETS_SIGNS, MOST_MARKETS - coast.size, 2);
        theText.empty();
        if (bad != FINE) {
            return -1 - bad;
        }
        for (int i = 0; i < lines.size; i++) {
            addMarket(lines.numbers[i]);
        }
        if (lines.size > 0) {
            past.clear();
        }
        return lines.size;
    }

    private void addMarket(int howMany) {
        if (coast.size < goods.length) {
            goods[coast.size] = howMany;
            coast.grow();
        }
    }

    public int ships() {
        int bad = spareFleet.read(theText);
        theText.empty();
        if (bad != FINE) {
            return -1 - bad;
        }
        Fleet earlier = fleet;
        fleet = spareFleet;
        spareFleet = earlier;
        return fleet.size;
    }

    public int rule() {
        int bad = spareRule.read(theText);
        theText.empty();
        if (bad != FINE) {
            return -1 - bad;
        }
        Rule earlier = theRule;
        theRule = spareRule;
        spareRule = earlier;
        return 0;
    }

    public int market(int market, int what) throws NoSuchElementException {
        if (!coast.has(market) || !within(what, 0, 5)) {
            throw new NoSuchElementException();
        }
        switch (what) {
            case 0:
                return goods[market];
            case 1:
                return coast.there[OLD][market];
            case 2:
                return coast.there[NEW][market];
            case 3:
                return coast.laidBy[OLD][market];
            case 4:
                return coast.laidBy[NEW][market];
            default:
                return priceOf(coast, market);
        }
    }

    public int load(int i, int what) throws NoSuchElementException {
        if (!within(i, 0, fleet.size - 1) || !within(what, 0, 1)) {
            throw new NoSuchElementException();
        }
        return what == 0 ? fleet.kinds[i] : fleet.shells[i];
    }

    public int sheet(int kind, int n, int f, int step) {
        if (!within(kind, 0, 3) || n > MOST_MARKETS) {
            return NONE;
        }
        if (kind == 3) {
            fillGoods(kind, 0, f, step);
            return -3;
        }
        if (n < 0) {
            return -2;
        }
        return fillGoods(kind, n, f, step);
    }

    private int fillGoods(int kind, int n, int f, int step) {
        int sum = 0;
        int entry = f;
        for (int i = 0; i < coast.size; i++) {
            goods[i] = i < n ? put(asKind(kind, entry), 1, 99) : 1;
            sum += goods[i];
            entry += step;
        }
        return sum;
    }

    private static int asKind(int kind, int entry) {
        if (kind == 0) {
            return (byte) entry;
        }
        return kind == 1 ? (short) entry : entry;
    }

    // ---- months

    public int months(int n) {
        if (!within(n, 0, 60)) {
            return NONE;
        }
        before.become(coast);
        int landed = coast.pass(fleet, n);
        past.put(before);
        boolean none = coast.size == 0;
        theRow.tell(landed, none ? 0 : priceOf(coast, coast.size - 1));
        return none ? 0 : priceOf(coast, 0);
    }

    public int brings(int market, int kind, int n) {
        before.become(coast);
        return remembered(coast.bring(market, kind, n));
    }

    public int lays(int market, int kind, int n) {
        before.become(coast);
        return remembered(coast.layBy(market, kind, n));
    }

    public int spends(int market, int kind, int n) {
        before.become(coast);
        return remembered(coast.spend(market, kind, n));
    }

    public int taxes(int market, int t) {
        before.become(coast);
        return remembered(coast.tax(market, t));
    }

    public int burns(int market) {
        before.become(coast);
        return remembered(coast.burn(market));
    }

    public int port() {
        before.become(coast);
        return remembered(coast.turnPort());
    }

    public int flow(int v) {
        before.become(coast);
        return remembered(coast.setFlow(v));
    }

    private int remembered(int answer) {
        if (answer >= 0) {
            past.put(before);
        }
        return answer;
    }

    public int year() {
        int bad = badSignOfYear();
        if (bad != FINE) {
            theText.empty();
            return -1 - bad;
        }
        before.become(coast);
        int done = 0;
        int refused = 0;
        int p = 0;
        while (p < theText.length && refused == 0) {
            if (act(p) < 0) {
                refused = 1;
            } else {
                done++;
                p += Math.max(1, shapeOfAct(theText.at(p, YEAR_SIGNS)).length());
            }
        }
        theText.empty();
        if (done > 0) {
            past.put(before);
        }
        theRow.tell(refused, coast.treasury);
        return done;
    }

    private int badSignOfYear() {
        int end = Math.min(theText.length, YEAR_SIGNS);
        int p = 0;
        while (p < end) {
            String shape = shapeOfAct(theText.at(p, end));
            if (shape.isEmpty()) {
                return p;
            }
            for (int i = 0; i < shape.length(); i++) {
                if (!suits(shape.charAt(i), theText.at(p + i, end))) {
                    return p + i;
                }
            }
            p += shape.length();
        }
        return theText.length > end ? end : FINE;
    }

    /** In a shape 0 stands for a digit, 1 for a digit 1 .. 9, k for a kind. */
    private static String shapeOfAct(int letter) {
        switch (letter) {
            case 'm':
                return "m0";
            case 't':
                return "t01";
            case 'b':
                return "b0";
            case 'p':
                return "p";
            case 'f':
                return "f0";
            case 'l':
                return "l0k1";
            case 's':
                return "s0k1";
            default:
                return "";
        }
    }

    private static boolean suits(char shape, int sign) {
        switch (shape) {
            case '0':
                return isDigit(sign);
            case '1':
                return isDigit(sign) && sign != '0';
            case 'k':
                return sign == 'o' || sign == 'n';
            default:
                return sign == shape;
        }
    }

    private int act(int p) {
        int first = theText.at(p + 1, YEAR_SIGNS) - '0';
        int second = theText.at(p + 2, YEAR_SIGNS);
        int third = theText.at(p + 3, YEAR_SIGNS) - '0';
        int kind = second == 'o' ? OLD : NEW;
        switch (theText.at(p, YEAR_SIGNS)) {
            case 'm':
                return coast.pass(fleet, first);
            case 't':
                return coast.tax(first, second - '0');
            case 'b':
                return coast.burn(first);
            case 'p':
                return coast.turnPort();
            case 'f':
                return coast.setFlow(first);
            case 'l':
                return coast.layBy(first, kind, 100 * third);
            case 's':
                return coast.spend(first, kind, 100 * third);
            default:
                return NONE;
        }
    }

    public int undo() {
        return past.giveBack(coast) ? past.size : NONE;
    }

    // ---- prices

    public int ahead(int market, int n) {
        if (!coast.has(market) || !within(n, 0, 99)) {
            return NONE;
        }
        tryMonths(n);
        theRow.tell(trial.there[OLD][market], trial.there[NEW][market]);
        return priceOf(trial, market);
    }

    public int doubles(int market) {
        if (!coast.has(market)) {
            return NONE;
        }
        int now = priceOf(coast, market);
        int wanted = now == 0 ? 1 : 2 * now;
        tryMonths(0);
        for (int n = 1; n <= 99; n++) {
            trial.pass(fleet, 1);
            int then = priceOf(trial, market);
            if (then >= wanted) {
                theRow.tell(then);
                return n;
            }
        }
        return -2;
    }

    public int trade(int v) {
        if (!within(v, 1, MOST_BROUGHT)) {
            return NONE;
        }
        theRow.clear();
        if (coast.size < 2) {
            return v;
        }
        foresee();
        int most = NONE;
        for (int buyer = 0; buyer < coast.size; buyer++) {
            for (int seller = 0; seller < coast.size; seller++) {
                int shells = traded(v, buyer, seller);
                if (buyer != seller && shells > most) {
                    most = shells;
                    theRow.tell(buyer, seller);
                }
            }
        }
        return most;
    }

    private int traded(int v, int buyer, int seller) {
        int price = foreseen[0][buyer];
        int apart = buyer < seller ? seller - buyer : buyer - seller;
        int bought = price == 0 ? 0 : v / price;
        return v - bought * price + bought * foreseen[apart][seller];
    }

    public int buys(int kind, int market, int v, int n) {
        if (!within(kind, 0, 4) || !maySpend(market, v, n)) {
            return NONE;
        }
        return goodsByKind(kind, market, v, n);
    }

    public int best(int market, int v, int n) {
        if (!maySpend(market, v, n)) {
            return NONE;
        }
        int most = NONE;
        int chosen = NONE;
        for (int kind = 0; kind <= 4; kind++) {
            int howMany = goodsByKind(kind, market, v, n);
            if (howMany > most) {
                most = howMany;
                chosen = kind;
            }
        }
        theRow.tell(most);
        return chosen;
    }

    private boolean maySpend(int market, int v, int n) {
        return coast.has(market) && within(v, 0, MOST_BROUGHT) && within(n, 0, 60);
    }

    private int goodsByKind(int kind, int market, int v, int n) {
        switch (kind) {
            case 0:
                return goodsFor(v, priceOf(coast, market));
            case 1:
                return goodsFor(v, theRule.price(0, 0, goods[market], market, 0, 0));
            case 2:
                return goodsFor(v, priceOf(coast, market) / 2);
            case 3:
                tryMonths(n);
                return goodsFor(v, priceOf(trial, market));
            default:
                return goodsFor(v / 2, priceOf(coast, market));
        }
    }

    public int closes(int market, int n, int c) {
        if (!coast.has(market) || !within(n, 1, 8) || !within(c, 0, 8)) {
            return NONE;
        }
        int least = 0;
        int chosen = NONE;
        for (int set = 0; set < 1 << n; set++) {
            if (Integer.bitCount(set) <= c) {
                int price = priceBehindClosing(market, n, set);
                if (chosen == NONE || price < least || price == least && hasFewer(set, chosen)) {
                    least = price;
                    chosen = set;
                }
            }
        }
        theRow.tell(chosen);
        return least;
    }

    private int priceBehindClosing(int market, int n, int set) {
        trial.become(coast);
        for (int i = 0; i < n; i++) {
            trial.closed = (set >> i & 1) == 1;
            trial.pass(fleet, 1);
        }
        return priceOf(trial, market);
    }

    public int grows(int n) {
        if (!within(n, 1, 60)) {
            return NONE;
        }
        if (coast.size == 0) {
            return -2;
        }
        tryMonths(n);
        int chosen = 0;
        int most = growth(0);
        for (int i = 1; i < coast.size; i++) {
            if (growth(i) > most) {
                chosen = i;
                most = growth(i);
            }
        }
        theRow.tell(most);
        return chosen;
    }

    private int growth(int market) {
        return priceOf(trial, market) - priceOf(coast, market);
    }

    public int reign(int n, int t, int v) {
        if (!within(n, 1, 8) || !within(t, 1, 9) || !within(v, 0, MOST_PRICE)) {
            return NONE;
        }
        if (coast.size == 0) {
            return -2;
        }
        int most = NONE;
        int chosen = NONE;
        for (int set = 0; set < 1 << n; set++) {
            tryTaxes(n, t, set);
            if (priceOf(trial, 0) >= v) {
                int got = trial.treasury;
                if (chosen == NONE || got > most || got == most && hasFewer(set, chosen)) {
                    most = got;
                    chosen = set;
                }
            }
        }
        if (chosen == NONE) {
            return -2;
        }
        theRow.tell(chosen);
        return most;
    }

    private void tryTaxes(int n, int t, int set) {
        trial.become(coast);
        for (int i = 0; i < n; i++) {
            trial.pass(fleet, 1);
            if ((set >> i & 1) == 1) {
                trial.tax(0, t);
            }
        }
    }

    /** Sets are met from the least number on, so of equally many the first one stays. */
    private static boolean hasFewer(int set, int other) {
        return Integer.bitCount(set) < Integer.bitCount(other);
    }

    public int melts(int market, int v, int g) {
        if (!coast.has(market) || !within(v, 0, MOST_BROUGHT) || !within(g, 1, 99)) {
            return NONE;
        }
        tryMonths(0);
        for (int n = 0; n <= 99; n++) {
            int howMany = goodsFor(v, priceOf(trial, market));
            if (howMany < g) {
                theRow.tell(howMany);
                return n;
            }
            trial.pass(fleet, 1);
        }
        return -2;
    }

    public int when(int market, int n) {
        if (!coast.has(market) || !within(n, 0, 60)) {
            return NONE;
        }
        int worth = 2 * coast.laidBy[OLD][market] + coast.laidBy[NEW][market];
        int most = NONE;
        int chosen = 0;
        tryMonths(0);
        for (int i = 0; i <= n; i++) {
            int howMany = goodsFor(worth, priceOf(trial, market));
            if (howMany > most) {
                most = howMany;
                chosen = i;
            }
            trial.pass(fleet, 1);
        }
        theRow.tell(most);
        return chosen;
    }

    public int rises(int n) {
        if (!within(n, 1, 60)) {
            return NONE;
        }
        tryMonths(n);
        int more = 0;
        int less = 0;
        for (int i = 0; i < coast.size; i++) {
            int change = growth(i);
            if (change > 0) {
                more |= 1 << i;
            }
            if (change < 0) {
                less |= 1 << i;
            }
        }
        theRow.tell(less);
        return more;
    }

    public int caravan(int v) {
        if (!within(v, 1, MOST_BROUGHT)) {
            return NONE;
        }
        if (coast.size == 0) {
            return -2;
        }
        foresee();
        long most = NONE;
        int chosen = 0;
        for (int plan = 0; plan < PLANS[coast.size]; plan++) {
            long shells = shellsByPlan(plan, v);
            if (shells > most) {
                most = shells;
                chosen = plan;
            }
        }
        theRow.clear();
        for (int i = 0; i < coast.size; i++) {
            theRow.add(deedOf(chosen, i));
        }
        return (int) most;
    }

    /** The first MARKET's deed is the highest digit by threes: so the least plan is the least row. */
    private int deedOf(int plan, int market) {
        return plan / PLANS[coast.size - 1 - market] % 3;
    }

    private long shellsByPlan(int plan, int v) {
        long shells = v;
        long carried = 0;
        for (int i = 0; i < coast.size; i++) {
            int deed = deedOf(plan, i);
            int price = foreseen[i][i];
            if (deed == 1) {
                shells = Math.min(MOST_CARRIED, shells + carried * price);
                carried = 0;
            }
            if (deed == 2 && price > 0) {
                carried += shells / price;
                shells %= price;
            }
        }
        return shells;
    }

    private int priceOf(Coast c, int market) {
        return priceBy(theRule, c, market);
    }

    private int priceBy(Rule by, Coast c, int market) {
        if (!c.has(market)) {
            return 0;
        }
        int hoard = c.laidBy[OLD][market] + c.laidBy[NEW][market];
        return by.price(c.there[OLD][market], c.there[NEW][market], goods[market],
                market, c.month % 12, hoard);
    }

    private static int goodsFor(int shells, int price) {
        return price == 0 ? MANY_GOODS : shells / price;
    }

    private void tryMonths(int n) {
        trial.become(coast);
        trial.pass(fleet, n);
    }

    private void foresee() {
        trial.become(coast);
        for (int n = 0; n < coast.size; n++) {
            for (int i = 0; i < coast.size; i++) {
                foreseen[n][i] = priceOf(trial, i);
            }
            trial.pass(fleet, 1);
        }
    }

    // ---- counting

    public int strings(int v, int k) {
        if (!within(v, 0, 99999) || !within(k, 1, 9)) {
            return NONE;
        }
        int strung = v / 40;
        theRow.tell(v % 40, roundedUp(strung, 25 * k));
        return strung;
    }

    public int counts(int v, int w) {
        if (!within(v, 0, 9999) || !within(w, 1, 99)) {
            return NONE;
        }
        int least = 10000;
        while (least > 0 && counted(least - 1, w) <= least - 1) {
            least--;
        }
        int has = counted(v, w);
        theRow.tell(has > v ? 1 : 0, least);
        return has;
    }

    private static int counted(int v, int w) {
        return w * roundedUp(v, 100);
    }

    public int pays(int v) {
        if (!within(v, 0, 9999)) {
            theText.empty();
            return -20000;
        }
        int bad = lines.read(theText, TEXT_SIGNS, MOST_STRINGS, 3);
        theText.empty();
        if (bad != FINE) {
            return -1 - bad;
        }
        int chosen = NONE;
        for (int set = 0; set < 1 << lines.size; set++) {
            if (lines.sum(set) == v && (chosen == NONE || hasFewer(set, chosen))) {
                chosen = set;
            }
        }
        if (chosen == NONE) {
            return -10000;
        }
        theRow.tell(chosen);
        return Integer.bitCount(chosen);
    }

    public int bearers(int v, int market) {
        if (!within(v, 0, 99999) || !coast.has(market)) {
            return NONE;
        }
        int fewest = roundedUp(v, 400);
        theRow.tell(Math.max(0, v - fewest * 10 * market));
        return fewest;
    }

    // ---- how many it was

    public int left(int a, int b) {
        if (!within(a, 2, MOST_LAID_BY) || !within(b, 0, a - 1)) {
            return NONE;
        }
        return heard.hear(a, b) ? heard.size : NONE;
    }

    public int forget() {
        int were = heard.size;
        heard.size = 0;
        return were;
    }

    public int fits() {
        heard.sift();
        int howMany = 0;
        int least = 0;
        int greatest = 0;
        for (int x = 1; x <= MOST_GUESSED; x++) {
            if (heard.fitting[x]) {
                howMany++;
                least = least == 0 ? x : least;
                greatest = x;
            }
        }
        theRow.clear();
        if (howMany > 0) {
            theRow.tell(least, greatest);
        }
        return howMany;
    }

    public int ask() {
        heard.sift();
        int fewest = MOST_GUESSED + 1;
        int chosen = 0;
        for (int a = 2; a <= MOST_LAID_BY; a++) {
            int most = heard.mostLeft(a);
            if (most < fewest) {
                fewest = most;
                chosen = a;
            }
        }
        if (fewest == 0) {
            return -2;
        }
        theRow.tell(fewest);
        return chosen;
    }

    // ---- chances, laws

    public int sound(int n, int k, int p) {
        if (!within(n, 1, 10) || !within(k, 0, n) || !within(p, 0, 10)) {
            return NONE;
        }
        long upper = 1;
        long lower = 1;
        for (int i = 0; i < k; i++) {
            upper *= 10 - p;
            lower *= 10;
        }
        tellFraction(upper, lower);
        return 0;
    }

    public int finds(int n, int s, int k) {
        if (!within(n, 1, 30) || !within(s, 0, n) || !within(k, 0, n)) {
            return NONE;
        }
        long all = choices(n, k);
        tellFraction(all - choices(n - s, k), all);
        return 0;
    }

    private static long choices(int n, int k) {
        long ways = k <= n ? 1 : 0;
        for (int i = 1; i <= k && i <= n; i++) {
            ways = ways * (n - i + 1) / i;
        }
        return ways;
    }

    private void tellFraction(long upper, long lower) {
        long common = commonDivisor(upper, lower);
        theRow.tell(upper / common, lower / common);
    }

    private static long commonDivisor(long a, long b) {
        long greater = a;
        long rest = b;
        for (int i = 0; i < 100 && rest != 0; i++) {
            long next = greater % rest;
            greater = rest;
            rest = next;
        }
        return greater == 0 ? 1 : greater;
    }

    public int law() {
        int bad = spareRule.read(theText);
        theText.empty();
        if (bad != FINE) {
            return -1000000 - bad;
        }
        int byOther = 0;
        int byRule = 0;
        for (int i = 0; i < coast.size; i++) {
            byOther += priceBy(spareRule, coast, i);
            byRule += priceOf(coast, i);
        }
        theRow.tell(byOther, byRule);
        return byOther - byRule;
    }

    // ---- rests, years

    public int rests(int v) {
        if (!within(v, 0, 9)) {
            return NONE;
        }
        theRow.clear();
        int howMany = 0;
        for (int x = 0; x <= BASKETS; x++) {
            for (int y = 0; y <= BASKETS; y++) {
                if (isBestAgainst(x, y, v) && isBestAgainst(y, x, v)) {
                    if (howMany == 0) {
                        theRow.tell(x, y);
                    }
                    howMany++;
                }
            }
        }
        return howMany;
    }

    private static boolean isBestAgainst(int own, int others, int v) {
        int has = baskets(own, others, v);
        for (int another = 0; another <= BASKETS; another++) {
            if (baskets(another, others, v) > has) {
                return false;
            }
        }
        return true;
    }

    private static int baskets(int own, int others, int v) {
        int price = 2 * BASKETS - own - others;
        return own * (v - price / 2) + (BASKETS - own) * 2;
    }

    public int years(int seed, int n) {
        if (!within(n, 1, 60)) {
            return NONE;
        }
        lot.begin(seed);
        trial.become(coast);
        for (int i = 0; i < n; i++) {
            drawAct();
        }
        theRow.tell(trial.sumThere(OLD), trial.sumThere(NEW));
        return trial.treasury;
    }

    private void drawAct() {
        int drawn = lot.draw(5);
        if (drawn <= 1) {
            trial.pass(fleet, 1);
        } else if (drawn == 4) {
            trial.turnPort();
        } else if (trial.size > 0) {
            int market = lot.draw(trial.size);
            if (drawn == 2) {
                trial.tax(market, 1);
            } else {
                trial.add(market, NEW, lot.draw(100));
            }
        }
    }

    // ---- kept

    public boolean keep(int i) {
        if (!within(i, 0, kept.length - 1)) {
            return false;
        }
        kept[i].become(coast);
        return true;
    }

    public boolean again(int i) {
        if (!within(i, 0, kept.length - 1) || kept[i].size != coast.size) {
            return false;
        }
        coast.become(kept[i]);
        past.clear();
        return true;
    }

    public int count(int what) {
        switch (what) {
            case 0:
                return coast.size;
            case 1:
                return fleet.size;
            case 2:
                return coast.month;
            case 3:
                return coast.flow;
            case 4:
                return coast.treasury;
            case 5:
                return coast.closed ? 1 : 0;
            case 6:
                return coast.sumThere(OLD);
            case 7:
                return coast.sumThere(NEW);
            case 8:
                return coast.sumLaidBy();
            case 9:
                return heard.size;
            case 10:
                return past.size;
            case 11:
                return theRow.size;
            case 12:
                return theText.length;
            default:
                return -100;
        }
    }

    public long row(int i) throws NoSuchElementException {
        if (!within(i, 0, theRow.size - 1)) {
            throw new NoSuchElementException();
        }
        return theRow.numbers[i];
    }

    private static boolean within(int v, int least, int most) {
        return v >= least && v <= most;
    }

    private static int put(int v, int least, int most) {
        return Math.max(least, Math.min(most, v));
    }

    private static boolean isDigit(int sign) {
        return sign >= '0' && sign <= '9';
    }

    private static boolean isKind(int kind) {
        return kind == OLD || kind == NEW;
    }

    private static int roundedUp(int v, int by) {
        return by <= 0 ? 0 : (v + by - 1) / by;
    }

    /** THE TEXT. */
    private static final class Text {
        final char[] signs = new char[TEXT_SIGNS];
        int length = 0;

        boolean add(int v) {
            if (length + 4 > signs.length) {
                return false;
            }
            for (int shift = 24; shift >= 0; shift -= 8) {
                signs[length] = (char) (v >>> shift & 255);
                length++;
            }
            return true;
        }

        boolean cut(int n) {
            if (n < 0 || n > length) {
                return false;
            }
            length = n;
            return true;
        }

        void empty() {
            length = 0;
        }

        int at(int p, int end) {
            return p >= 0 && p < length && p < end ? signs[p] : END;
        }

        int digits(int p, int most, int end) {
            int howMany = 0;
            while (howMany < most && isDigit(at(p + howMany, end))) {
                howMany++;
            }
            return howMany;
        }

        int number(int p, int digits) {
            int value = 0;
            for (int i = 0; i < digits; i++) {
                value = value * 10 + at(p + i, TEXT_SIGNS) - '0';
            }
            return value;
        }
    }

    /** THE ROW. */
    private static final class Row {
        final long[] numbers = new long[MOST_MARKETS];
        int size = 0;

        void clear() {
            size = 0;
        }

        void add(long number) {
            if (size < numbers.length) {
                numbers[size] = number;
                size++;
            }
        }

        void tell(long only) {
            size = 0;
            add(only);
        }

        void tell(long first, long second) {
            size = 0;
            add(first);
            add(second);
        }
    }

    /** Numbers with ; between, none of them 0. */
    private static final class Lines {
        final int[] numbers = new int[MOST_STRINGS];
        int size = 0;

        int read(Text text, int mostSigns, int mostLines, int mostDigits) {
            size = 0;
            if (text.length == 0) {
                return FINE;
            }
            int end = Math.min(text.length, mostSigns);
            int p = 0;
            for (int line = 0; line < mostLines && line < numbers.length; line++) {
                int digits = text.digits(p, mostDigits, end);
                if (digits == 0) {
                    return p;
                }
                numbers[line] = text.number(p, digits);
                size = line + 1;
                p += digits;
                if (numbers[line] == 0) {
                    return p - 1;
                }
                if (p == end) {
                    return text.length > end ? end : FINE;
                }
                if (text.at(p, end) != ';') {
                    return p;
                }
                p++;
            }
            return p;
        }

        int sum(int set) {
            int together = 0;
            for (int i = 0; i < size; i++) {
                together += (set >> i & 1) * numbers[i];
            }
            return together;
        }
    }

    /** SHIPS: their LOADS. */
    private static final class Fleet {
        final int[] kinds = new int[MOST_LOADS];
        final int[] shells = new int[MOST_LOADS];
        int size;

        Fleet() {
            kinds[0] = NONE;
            size = 1;
        }

        int read(Text text) {
            int end = Math.min(text.length, SHIPS_SIGNS);
            int p = 0;
            size = 0;
            while (p < end) {
                int sign = text.at(p, end);
                if (size == MOST_LOADS || sign != '.' && sign != 'o' && sign != 'n') {
                    return p;
                }
                int digits = sign == '.' ? 0 : text.digits(p + 1, 3, end);
                if (sign != '.' && digits == 0) {
                    return p + 1;
                }
                kinds[size] = sign == '.' ? NONE : sign == 'o' ? OLD : NEW;
                shells[size] = 10 * text.number(p + 1, digits);
                size++;
                p += 1 + digits;
            }
            return size == 0 || text.length > end ? end : FINE;
        }

        int atMonth(int month) {
            return size <= 0 ? 0 : Math.floorMod(month, size);
        }
    }

    /** What months and deeds change; all of it, and nothing else, is what undo() and again() put back. */
    private static final class Coast {
        final int[][] there = new int[2][MOST_MARKETS];
        final int[][] laidBy = new int[2][MOST_MARKETS];
        int size = 0;
        int flow = 2;
        int month = 0;
        int treasury = 0;
        boolean closed = false;

        void become(Coast other) {
            for (int kind = OLD; kind <= NEW; kind++) {
                System.arraycopy(other.there[kind], 0, there[kind], 0, MOST_MARKETS);
                System.arraycopy(other.laidBy[kind], 0, laidBy[kind], 0, MOST_MARKETS);
            }
            size = other.size;
            flow = other.flow;
            month = other.month;
            treasury = other.treasury;
            closed = other.closed;
        }

        void grow() {
            if (size < MOST_MARKETS) {
                size++;
            }
        }

        boolean has(int market) {
            return market >= 0 && market < size;
        }

        int pass(Fleet fleet, int n) {
            int landed = 0;
            for (int i = 0; i < n; i++) {
                landed += land(fleet);
                drift(OLD);
                drift(NEW);
                month++;
            }
            return landed;
        }

        private int land(Fleet fleet) {
            int i = fleet.atMonth(month);
            if (closed || size == 0 || fleet.kinds[i] == NONE) {
                return 0;
            }
            return add(0, fleet.kinds[i], fleet.shells[i]);
        }

        /** From the farthest MARKET on, so that what has just come does not go on in the same MONTH. */
        private void drift(int kind) {
            for (int i = size - 2; i >= 0; i--) {
                int going = there[kind][i] * flow / 10;
                there[kind][i] -= going;
                add(i + 1, kind, going);
            }
        }

        /** How many of them found room there. */
        int add(int market, int kind, int n) {
            if (!has(market) || !isKind(kind)) {
                return 0;
            }
            int were = there[kind][market];
            there[kind][market] = Math.min(MOST_THERE, were + n);
            return there[kind][market] - were;
        }

        private boolean mayMove(int market, int kind, int n) {
            return has(market) && isKind(kind) && within(n, 1, MOST_BROUGHT);
        }

        int bring(int market, int kind, int n) {
            if (!mayMove(market, kind, n)) {
                return NONE;
            }
            add(market, kind, n);
            return there[kind][market];
        }

        int layBy(int market, int kind, int n) {
            if (!mayMove(market, kind, n)) {
                return NONE;
            }
            if (there[kind][market] < n) {
                return -2;
            }
            if (laidBy[kind][market] + n > MOST_THERE) {
                return -3;
            }
            there[kind][market] -= n;
            laidBy[kind][market] += n;
            return laidBy[kind][market];
        }

        int spend(int market, int kind, int n) {
            if (!mayMove(market, kind, n)) {
                return NONE;
            }
            if (laidBy[kind][market] < n) {
                return -2;
            }
            laidBy[kind][market] -= n;
            add(market, kind, n);
            return laidBy[kind][market];
        }

        int tax(int market, int t) {
            if (!has(market) || !within(t, 1, 9)) {
                return NONE;
            }
            for (int kind = OLD; kind <= NEW; kind++) {
                int taken = there[kind][market] * t / 10;
                there[kind][market] -= taken;
                treasury = Math.min(MOST_TREASURY, treasury + taken);
            }
            return treasury;
        }

        int burn(int market) {
            if (!has(market)) {
                return NONE;
            }
            int burnt = there[NEW][market];
            there[NEW][market] = 0;
            return burnt == 0 ? -2 : burnt;
        }

        int turnPort() {
            closed = !closed;
            return closed ? 1 : 0;
        }

        int setFlow(int v) {
            if (!within(v, 0, 9)) {
                return NONE;
            }
            int was = flow;
            flow = v;
            return was;
        }

        int sumThere(int kind) {
            int sum = 0;
            for (int i = 0; i < size && isKind(kind); i++) {
                sum += there[kind][i];
            }
            return sum;
        }

        int sumLaidBy() {
            int sum = 0;
            for (int i = 0; i < size; i++) {
                sum += laidBy[OLD][i] + laidBy[NEW][i];
            }
            return sum;
        }
    }

    /** What can be undone: a ring, so that the latest ones push out the oldest. */
    private static final class Past {
        final Coast[] coasts = new Coast[MOST_UNDONE];
        int next = 0;
        int size = 0;

        Past() {
            for (int i = 0; i < coasts.length; i++) {
                coasts[i] = new Coast();
            }
        }

        void put(Coast coast) {
            coasts[next].become(coast);
            next = next == MOST_UNDONE - 1 ? 0 : next + 1;
            size = Math.min(MOST_UNDONE, size + 1);
        }

        boolean giveBack(Coast coast) {
            if (size == 0) {
                return false;
            }
            next = next == 0 ? MOST_UNDONE - 1 : next - 1;
            size--;
            coast.become(coasts[next]);
            return true;
        }

        void clear() {
            size = 0;
        }
    }

    /** A rule as steps: a number, a letter's value, or an operator on what the steps ahead of it left. */
    private static final class Rule {
        final int[] steps = new int[RULE_SIGNS];
        final int[] waiting = new int[RULE_SIGNS];
        final int[] values = new int[RULE_SIGNS];
        final int[] letters = new int[6];
        final boolean[] compared = new boolean[MOST_OPENED + 1];
        int size;
        int waitingSize;
        int opened;
        boolean thingIsDue;

        Rule() {
            beFirstRule();
        }

        private void beFirstRule() {
            size = FIRST_RULE.length;
            System.arraycopy(FIRST_RULE, 0, steps, 0, size);
        }

        int read(Text text) {
            if (text.length == 0) {
                beFirstRule();
                return FINE;
            }
            int end = Math.min(text.length, RULE_SIGNS);
            size = 0;
            waitingSize = 0;
            opened = 0;
            compared[0] = false;
            thingIsDue = true;
            int p = 0;
            while (p < end) {
                int used = thingIsDue ? readThing(text, p, end) : readOperator(text.at(p, end));
                if (used <= 0) {
                    return p;
                }
                p += used;
            }
            if (thingIsDue || opened > 0 || text.length > end) {
                return end;
            }
            release(1);
            return FINE;
        }

        private int readThing(Text text, int p, int end) {
            int sign = text.at(p, end);
            if (sign == '-') {
                await(NEGATED);
                return 1;
            }
            if (sign == '(') {
                return open() ? 1 : 0;
            }
            int letter = LETTERS.indexOf((char) sign);
            int digits = text.digits(p, 3, end);
            if (letter >= 0) {
                step(FIRST_LETTER + letter);
            } else if (digits > 0) {
                step(text.number(p, digits));
            } else {
                return 0;
            }
            thingIsDue = false;
            return letter >= 0 ? 1 : digits;
        }

        private int readOperator(int sign) {
            if (sign == ')') {
                return shut() ? 1 : 0;
            }
            int operator = OPERATORS.indexOf((char) sign) + FIRST_OPERATOR;
            if (operator < FIRST_OPERATOR) {
                return 0;
            }
            if (operator <= SAME) {
                if (compared[opened]) {
                    return 0;
                }
                compared[opened] = true;
            }
            release(rank(operator));
            await(operator);
            thingIsDue = true;
            return 1;
        }

        private boolean open() {
            if (opened >= MOST_OPENED) {
                return false;
            }
            opened++;
            compared[opened] = false;
            await(OPENED);
            return true;
        }

        private boolean shut() {
            if (opened == 0) {
                return false;
            }
            release(1);
            waitingSize = Math.max(0, waitingSize - 1);
            opened--;
            return true;
        }

        private void await(int operator) {
            if (waitingSize < waiting.length) {
                waiting[waitingSize] = operator;
                waitingSize++;
            }
        }

        private void release(int least) {
            while (waitingSize > 0 && rank(waiting[waitingSize - 1]) >= least) {
                waitingSize--;
                step(waiting[waitingSize]);
            }
        }

        private void step(int what) {
            if (size < steps.length) {
                steps[size] = what;
                size++;
            }
        }

        private static int rank(int operator) {
            if (operator == OPENED) {
                return 0;
            }
            if (operator <= SAME) {
                return 1;
            }
            if (operator <= MINUS) {
                return 2;
            }
            return operator == NEGATED ? 4 : 3;
        }

        int price(int o, int n, int g, int d, int m, int h) {
            letters[0] = o;
            letters[1] = n;
            letters[2] = g;
            letters[3] = d;
            letters[4] = m;
            letters[5] = h;
            int top = 0;
            for (int i = 0; i < size; i++) {
                int step = steps[i];
                if (step < FIRST_OPERATOR && top < values.length) {
                    values[top] = step < FIRST_LETTER ? step : letters[step - FIRST_LETTER];
                    top++;
                } else if (step == NEGATED && top >= 1) {
                    values[top - 1] = -values[top - 1];
                } else if (top >= 2) {
                    top--;
                    values[top - 1] = joined(step, values[top - 1], values[top]);
                }
            }
            return put(values[0], 0, MOST_PRICE);
        }

        private static int joined(int operator, int a, int b) {
            switch (operator) {
                case LESS:
                    return a < b ? 1 : 0;
                case MORE:
                    return a > b ? 1 : 0;
                case SAME:
                    return a == b ? 1 : 0;
                case PLUS:
                    return a + b;
                case MINUS:
                    return a - b;
                case TIMES:
                    return a * b;
                case PARTED:
                    return b == 0 ? 0 : a / b;
                default:
                    return 0;
            }
        }
    }

    /** What was heard of how many it was. */
    private static final class Heard {
        final int[] by = new int[MOST_HEARD];
        final int[] over = new int[MOST_HEARD];
        final boolean[] fitting = new boolean[MOST_GUESSED + 1];
        int size = 0;

        boolean hear(int a, int b) {
            if (size >= MOST_HEARD) {
                return false;
            }
            by[size] = a;
            over[size] = b;
            size++;
            return true;
        }

        void sift() {
            for (int x = 1; x <= MOST_GUESSED; x++) {
                fitting[x] = isFitting(x);
            }
        }

        private boolean isFitting(int x) {
            for (int i = 0; i < size; i++) {
                if (by[i] > 0 && x % by[i] != over[i]) {
                    return false;
                }
            }
            return true;
        }

        int mostLeft(int a) {
            int most = 0;
            for (int b = 0; b < a; b++) {
                int howMany = 0;
                for (int x = b; x <= MOST_GUESSED && a > 0; x += a) {
                    howMany += fitting[x] ? 1 : 0;
                }
                most = Math.max(most, howMany);
            }
            return most;
        }
    }

    /** DRAWS by a seed. */
    private static final class Lot {
        int r = 0;

        void begin(int seed) {
            r = seed;
        }

        int draw(int n) {
            r = r * 1103515245 + 12345;
            return n <= 0 ? 0 : (r >>> 16) % n;
        }
    }
}
