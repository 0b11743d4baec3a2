import java.io.IOException;
import java.lang.reflect.Constructor;
import java.lang.reflect.Field;
import java.lang.reflect.Member;
import java.lang.reflect.Method;
import java.lang.reflect.Modifier;
import java.nio.file.Files;
import java.nio.file.Path;
import java.util.ArrayList;
import java.util.Arrays;
import java.util.List;
import java.util.Set;
import java.util.TreeSet;
import java.util.regex.Matcher;
import java.util.regex.Pattern;

/** The face as the document gives it, and those rules of LANGUAGE.md that a text or a class file shows. */
public final class LanguageTest {
    private static final Checks T = new Checks();
    private static final Path SOURCE = Path.of("src/main/java/ShellsByLoad.java");
    private static final String[] FACE = {
        "int sign(int)", "boolean end(int)", "int markets()", "int ships()", "int rule()",
        "int market(int,int) throws java.util.NoSuchElementException",
        "int load(int,int) throws java.util.NoSuchElementException", "int sheet(int,int,int,int)",
        "int months(int)", "int brings(int,int,int)", "int lays(int,int,int)", "int spends(int,int,int)",
        "int taxes(int,int)", "int burns(int)", "int port()", "int flow(int)", "int year()", "int undo()",
        "int ahead(int,int)", "int doubles(int)", "int trade(int)", "int buys(int,int,int,int)",
        "int best(int,int,int)", "int closes(int,int,int)", "int grows(int)", "int reign(int,int,int)",
        "int melts(int,int,int)", "int when(int,int)", "int rises(int)", "int caravan(int)", "int strings(int,int)",
        "int counts(int,int)", "int pays(int)", "int bearers(int,int)", "int left(int,int)", "int forget()",
        "int fits()", "int ask()", "int sound(int,int,int)", "int finds(int,int,int)", "int law()", "int rests(int)",
        "int years(int,int)", "boolean keep(int)", "boolean again(int)", "int count(int)",
        "long row(int) throws java.util.NoSuchElementException"};

    public static void main(String[] args) throws IOException {
        String source = Files.readString(SOURCE);
        T.test("the face", LanguageTest::face);
        T.test("no other member", LanguageTest::members);
        T.test("classes inside", LanguageTest::classes);
        T.test("the source's words", () -> words(withoutComments(source)));
        T.test("the source's lengths", () -> lengths(source));
        T.finish();
    }

    private static void face() {
        Set<String> got = new TreeSet<>();
        for (Method m : ShellsByLoad.class.getDeclaredMethods()) {
            if (Modifier.isPublic(m.getModifiers())) {
                got.add(m.toGenericString().replace("public ", "").replace("ShellsByLoad.", ""));
            }
        }
        Set<String> due = new TreeSet<>(Arrays.asList(FACE));
        if (!got.equals(due)) {
            T.wrong("the face is " + got + ", due is " + due);
        }
        Constructor<?>[] all = ShellsByLoad.class.getDeclaredConstructors();
        T.same("constructors", all.length, 1);
        T.same("its parameters", all[0].getParameterCount(), 0);
        T.same("it is public", Modifier.isPublic(all[0].getModifiers()), true);
        int is = ShellsByLoad.class.getModifiers();
        T.same("public and final", Modifier.isPublic(is) && Modifier.isFinal(is), true);
    }

    private static boolean isPrivate(Member m) {
        return Modifier.isPrivate(m.getModifiers());
    }

    private static void members() {
        Set<String> names = new TreeSet<>();
        for (Method m : ShellsByLoad.class.getMethods()) {
            names.add(m.getName());
        }
        for (Field f : ShellsByLoad.class.getDeclaredFields()) {
            T.same(f.getName() + " is private", isPrivate(f) || f.getName().equals("NONE"), true);
        }
        List<Class<?>> all = new ArrayList<>(List.of(ShellsByLoad.class.getDeclaredClasses()));
        all.add(ShellsByLoad.class);
        for (Class<?> c : all) {
            for (Method m : c.getDeclaredMethods()) {
                boolean ofFace = c == ShellsByLoad.class && Modifier.isPublic(m.getModifiers());
                T.same(m + " is private or inside", ofFace || isPrivate(m) || c != ShellsByLoad.class, true);
                T.same(m + " bears a public name", !ofFace && names.contains(m.getName()), false);
                T.same(m + " has seven parameters at most", m.getParameterCount() <= 7, true);
            }
        }
    }

    private static void classes() {
        Class<?>[] all = ShellsByLoad.class.getDeclaredClasses();
        T.same("twelve at most", all.length < 12, true);
        for (Class<?> c : all) {
            T.same(c + " is static", Modifier.isStatic(c.getModifiers()), true);
            T.same(c + " is private", Modifier.isPrivate(c.getModifiers()), true);
        }
        List<Class<?>> these = new ArrayList<>(List.of(all));
        these.add(ShellsByLoad.class);
        for (Class<?> c : these) {
            int fields = 0;
            for (Field f : c.getDeclaredFields()) {
                boolean isStatic = Modifier.isStatic(f.getModifiers());
                fields += isStatic ? 0 : 1;
                T.same(f + " is final if static", !isStatic || Modifier.isFinal(f.getModifiers()), true);
            }
            T.same(c + " has twenty fields at most", fields <= 20, true);
        }
    }

    private static String withoutComments(String source) {
        return source.replaceAll("(?s)/\\*.*?\\*/", "").replaceAll("//[^\n]*", "");
    }

    private static void words(String code) {
        String[] forbidden = {"->", "::", "\\bcatch\\b", "\\btry\\b", "\\bfinally\\b", "\\bsynchronized\\b", "\\bassert\\b",
            "Exact\\b", "\\bvar\\b", "\\bpackage\\b", "\\binstanceof\\b", "\\bnull\\b", "\\+ \"", "\" \\+",
            "\\bThread\\b", "\\brandom\\b", "\\bstatic \\{", "\\bString\\.", "\\bInteger\\.(?!bitCount)",
            "\\bMath\\.(?!min|max|floorMod)", "\\bSystem\\.(?!arraycopy)", "[^\\x00-\\x7f]"};
        for (String word : forbidden) {
            Matcher m = Pattern.compile(word).matcher(code);
            if (m.find()) {
                T.wrong("the source has '" + m.group() + "'");
            }
        }
        Matcher imports = Pattern.compile("import [^;]*;").matcher(code);
        while (imports.find()) {
            T.same(imports.group(), imports.group().equals("import java.util.NoSuchElementException;"), true);
        }
        Matcher thrown = Pattern.compile("throw new (\\w+)\\(\\);").matcher(code);
        int well = 0;
        while (thrown.find()) {
            T.same(thrown.group(), thrown.group(1).equals("NoSuchElementException"), true);
            well++;
        }
        int all = 0;
        Matcher any = Pattern.compile("\\bthrow\\b").matcher(code);
        while (any.find()) {
            all++;
        }
        T.same("each throw makes its exception", well, all);
    }

    private static void lengths(String source) {
        Matcher m = Pattern.compile("(?ms)^( {4}| {8})(?=\\S)[^\n;=]*\\([^\n;]*\\{\n(.*?)^\\1\\}").matcher(source);
        int methods = 0;
        while (m.find()) {
            methods++;
            T.same("some sixty lines at most: " + m.group().trim().split("\n")[0],
                    m.group(2).split("\n").length <= 60, true);
        }
        T.same("methods were found", methods > 80, true);
    }
}
