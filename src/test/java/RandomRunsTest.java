import java.lang.reflect.InvocationTargetException;
import java.lang.reflect.Method;
import java.util.ArrayList;
import java.util.Arrays;
import java.util.List;
import java.util.Random;

/** Runs of calls by fixed seeds: the class and the plain model must answer alike, and show alike. */
public final class RandomRunsTest {
    private static final Checks T = new Checks();
    private static final int RUNS = 1000;
    private static final int CALLS = 60;

    private final Random random;
    private final ShellsByLoad x = new ShellsByLoad();
    private final PlainShells y = new PlainShells();
    private final List<String> told = new ArrayList<>();

    private RandomRunsTest(long seed) {
        random = new Random(seed);
    }

    public static void main(String[] args) {
        int runs = args.length > 0 ? Integer.parseInt(args[0]) : RUNS;
        int first = args.length > 1 ? Integer.parseInt(args[1]) : 0;
        for (int part = 0; part < 10; part++) {
            int from = first + part * (runs / 10);
            T.test("runs from " + from, () -> {
                for (int seed = from; seed < from + runs / 10; seed++) {
                    if (!new RandomRunsTest(seed).run()) {
                        break;
                    }
                }
            });
        }
        T.finish();
    }

    private boolean run() {
        if (random.nextInt(12) > 0) {
            say(marketsText());
            call("markets");
        }
        if (random.nextInt(6) > 0) {
            say(shipsText());
            call("ships");
        }
        for (int i = 0; i < CALLS; i++) {
            if (!step()) {
                T.wrong("the last of these calls: " + told);
                return false;
            }
        }
        return true;
    }

    private boolean step() {
        Method method = FACE.get(random.nextInt(FACE.size()));
        String name = method.getName();
        if (TEXTS.contains(name)) {
            say(spoilt(textFor(name)));
        }
        Integer[] args = new Integer[method.getParameterCount()];
        for (int i = 0; i < args.length; i++) {
            args[i] = argument(name, i);
        }
        return call(name, args);
    }

    private static final List<String> TEXTS = List.of("markets", "ships", "rule", "year", "pays", "law");
    private static final List<Method> FACE = face();

    private static List<Method> face() {
        List<Method> all = new ArrayList<>();
        for (Method m : ShellsByLoad.class.getDeclaredMethods()) {
            boolean isPublic = java.lang.reflect.Modifier.isPublic(m.getModifiers());
            int often = !isPublic || m.getName().equals("sign") ? 0
                    : List.of("months", "brings", "lays", "year", "rule").contains(m.getName()) ? 4
                    : List.of("markets", "forget", "again").contains(m.getName()) ? 1 : 2;
            for (int i = 0; i < often; i++) {
                all.add(m);
            }
        }
        all.sort((a, b) -> a.getName().compareTo(b.getName()));
        return all;
    }

    private boolean call(String name, Integer... args) {
        told.add(name + Arrays.toString(args));
        String got = answer(x, name, args);
        String due = answer(y, name, args);
        if (!got.equals(due)) {
            T.wrong(name + Arrays.toString(args) + " answered " + got + ", the model " + due);
            return false;
        }
        String shownGot = shown(x);
        String shownDue = shown(y);
        if (!shownGot.equals(shownDue)) {
            T.wrong("behind " + name + Arrays.toString(args) + " it shows " + shownGot + ", the model " + shownDue);
            return false;
        }
        return true;
    }

    private static String answer(Object on, String name, Integer... args) {
        Class<?>[] types = new Class<?>[args.length];
        Arrays.fill(types, int.class);
        try {
            return String.valueOf(on.getClass().getMethod(name, types).invoke(on, (Object[]) args));
        } catch (InvocationTargetException e) {
            return "throws " + e.getCause().getClass().getSimpleName();
        } catch (ReflectiveOperationException e) {
            throw new IllegalStateException(e);
        }
    }

    private static String shown(Object on) {
        StringBuilder all = new StringBuilder();
        for (int what = 0; what <= 12; what++) {
            all.append(answer(on, "count", what)).append(' ');
        }
        for (int market = 0; market < 7; market++) {
            for (int what = 0; what <= 5; what++) {
                all.append(answer(on, "market", market, what)).append(what == 5 ? " | " : " ");
            }
        }
        for (int i = 0; i < 9; i++) {
            all.append(answer(on, "load", i, 0)).append(' ').append(answer(on, "load", i, 1)).append(" | ");
        }
        for (int i = 0; i < 7; i++) {
            all.append(answer(on, "row", i)).append(' ');
        }
        return all.toString();
    }

    private void say(String text) {
        told.add("say '" + text + "'");
        for (Object on : new Object[] {x, y}) {
            answer(on, "end", 0);
            for (int i = 0; i < text.length(); i += 4) {
                int v = 0;
                for (int k = i; k < i + 4; k++) {
                    v = v << 8 | (k < text.length() ? text.charAt(k) : 0);
                }
                answer(on, "sign", v);
            }
            answer(on, "end", text.length());
        }
    }

    // ---- texts

    private String pick(String... of) {
        return of[random.nextInt(of.length)];
    }

    private String textFor(String name) {
        switch (name) {
            case "markets":
                return marketsText();
            case "ships":
                return shipsText();
            case "year":
                return yearText();
            case "pays":
                return purseText();
            default:
                return random.nextInt(8) == 0 ? "" : ruleText();
        }
    }

    private String number(int digits) {
        StringBuilder s = new StringBuilder();
        for (int i = 1 + random.nextInt(digits); i > 0; i--) {
            s.append((char) ('0' + (random.nextInt(4) == 0 ? 0 : random.nextInt(10))));
        }
        return s.toString();
    }

    private String some(int most, String between, java.util.function.Supplier<String> one) {
        StringBuilder s = new StringBuilder();
        int n = random.nextInt(most + 1);
        for (int i = 0; i < n; i++) {
            s.append(i > 0 ? between : "").append(one.get());
        }
        return s.toString();
    }

    private String marketsText() {
        return some(random.nextInt(3) == 0 ? 7 : 3, ";", () -> random.nextInt(15) == 0 ? number(2) : "" + (1 + random.nextInt(30)));
    }

    private String shipsText() {
        return some(random.nextInt(5) == 0 ? 9 : 5, "", () -> random.nextInt(5) == 0 ? "." : pick("o", "n") + number(3));
    }

    private String purseText() {
        return some(random.nextInt(6) == 0 ? 9 : 8, ";",
                () -> random.nextInt(12) == 0 ? number(3) : "" + (1 + random.nextInt(random.nextBoolean() ? 9 : 300)));
    }

    private String yearText() {
        return some(random.nextInt(6) == 0 ? 40 : 8, "", () -> {
            String market = "" + random.nextInt(random.nextInt(8) == 0 ? 9 : 3);
            String some = "" + (random.nextInt(20) == 0 ? 0 : 1 + random.nextInt(9));
            return pick("m" + number(1), "m1", "t" + market + some, "b" + market, "p", "f" + number(1),
                    "l" + market + pick("o", "n") + some, "s" + market + pick("o", "n") + pick("1", some));
        });
    }

    private String ruleText() {
        return pick("(o*2+n)/g", "o", "o+n", "(o+n)/g+m", "m", "9-m", "500-o/9", "(o*3+n-h)/g", expression(3));
    }

    private String expression(int deep) {
        String s = sum(deep);
        return random.nextInt(4) == 0 ? s + pick("<", ">", "=") + sum(deep) : s;
    }

    private String sum(int deep) {
        String s = thing(deep);
        for (int i = random.nextInt(4); i > 0; i--) {
            s += pick("+", "-", "*", "/") + thing(deep);
        }
        return s;
    }

    private String thing(int deep) {
        String minus = random.nextInt(8) == 0 ? pick("-", "--", "---") : "";
        if (deep > 0 && random.nextInt(4) == 0) {
            return minus + "(" + expression(random.nextInt(12) == 0 ? deep + 2 : deep - 1) + ")";
        }
        return minus + (random.nextInt(3) == 0 ? number(3) : pick("o", "n", "g", "d", "m", "h"));
    }

    private String spoilt(String text) {
        StringBuilder s = new StringBuilder(text);
        if (random.nextInt(4) == 0) {
            for (int i = random.nextInt(2); i >= 0; i--) {
                int p = random.nextInt(s.length() + 1);
                String sign = pick(";", "0", "1", "9", "o", "n", ".", "m", "p", "t", "(", ")", "-", "<", "*", "x", "l", "" + (char) 200);
                int how = random.nextInt(3);
                if (how == 0 || p == s.length()) {
                    s.insert(p, sign);
                } else if (how == 1) {
                    s.deleteCharAt(p);
                } else {
                    s.setCharAt(p, sign.charAt(0));
                }
            }
        }
        if (random.nextInt(8) == 0) {
            String one = s.toString();
            while (s.length() < 80 && !one.isEmpty()) {
                s.append(random.nextInt(3) == 0 ? ";" : random.nextInt(3) == 0 ? "+" : "").append(one);
            }
        }
        s.setLength(Math.min(80, s.length()));
        return s.toString();
    }

    // ---- arguments

    private int argument(String name, int i) {
        if (random.nextInt(25) == 0) {
            int[] far = {-1, -2, 0, 61, 100, 9999, 10000, 99999, 100000, Integer.MAX_VALUE, Integer.MIN_VALUE};
            return far[random.nextInt(far.length)];
        }
        switch (name + i) {
            case "end0": case "count0": case "row0": return random.nextInt(14) - 1;
            case "market1": case "sheet1": return random.nextInt(9) - 1;
            case "load0": return random.nextInt(9);
            case "load1": case "brings1": case "lays1": case "spends1": return random.nextInt(2);
            case "sheet0": return random.nextInt(4);
            case "sheet2": return random.nextInt(4) == 0 ? random.nextInt() : random.nextInt(60);
            case "sheet3": return random.nextInt(4) == 0 ? random.nextInt() : random.nextInt(20) - 9;
            case "months0": return random.nextInt(4) == 0 ? random.nextInt(61) : random.nextInt(5);
            case "brings2": return random.nextBoolean() ? 9999 : 1 + random.nextInt(3000);
            case "lays2": case "spends2": return random.nextInt(6) == 0 ? 9999 : 1 + random.nextInt(900);
            case "taxes1": case "reign1": return 1 + random.nextInt(9);
            case "flow0": case "rests0": return random.nextInt(10);
            case "ahead1": case "melts2": case "counts1": return random.nextInt(100);
            case "trade0": case "caravan0": case "buys2": case "best1": case "melts1": case "counts0":
                return random.nextInt(3) == 0 ? random.nextInt(40) : random.nextInt(10000);
            case "buys0": return random.nextInt(5);
            case "buys3": case "best2": case "when1": case "grows0": case "rises0": return random.nextInt(61);
            case "closes1": case "reign0": return 1 + random.nextInt(random.nextInt(4) == 0 ? 8 : 4);
            case "closes2": return random.nextInt(5);
            case "reign2": return random.nextInt(random.nextBoolean() ? 10 : 2000);
            case "strings0": case "bearers0": return random.nextInt(100000);
            case "strings1": return 1 + random.nextInt(9);
            case "pays0": return random.nextInt(random.nextBoolean() ? 15 : 800);
            case "bearers1": return random.nextInt(4);
            case "left0": return 2 + random.nextInt(39);
            case "left1": return random.nextInt(5);
            case "sound0": return 1 + random.nextInt(10);
            case "sound1": return random.nextInt(6);
            case "sound2": return random.nextInt(11);
            case "finds0": return 1 + random.nextInt(30);
            case "finds1": case "finds2": return random.nextInt(12);
            case "years0": return random.nextInt();
            case "years1": return 1 + random.nextInt(60);
            case "keep0": case "again0": return random.nextInt(3);
            default: return random.nextInt(3);
        }
    }
}
