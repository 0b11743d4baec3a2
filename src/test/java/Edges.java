import java.util.ArrayList;
import java.util.LinkedHashMap;
import java.util.List;
import java.util.Map;
import java.util.regex.Matcher;
import java.util.regex.Pattern;

/**
 * A test of its own for each boundary that the document names. Its name is the document's own words, so the
 * sentence can be found by them; words that the document does not have, or has twice in a section, are a fault.
 */
final class Edges {
    /** What names a boundary in the document: such words must stand in the name of a test. */
    private static final Pattern NAMES_A_BOUNDARY = Pattern.compile(String.join("|",
            "\\S+ \\.\\. ?[^\\s,;:]*", "\\d+ to \\d+", "Refused:? [^.]*\\.", "NONE: [^.:]*", "others",
            "NoSuchElementException: [^.]*\\.", "-\\d+( - p)?: ", "-100 for [^.]*", "another [nvw]\\w*", "\\bnone\\b( such)?",
            "at most", "at least", "at first", "first", "least", "fewest", "fewer than", "more than", "\\d+ or more",
            "below 0", "above 0", "by 0", "an empty one", "its end[^,;:)]*", "if it has more", "no room", "not so many",
            "a (second|fourth|ninth|seventh) \\w+", "[Ww]ithout[^;:)]*", "missing", "[Nn]othing", "can't", "stays?\\b",
            "\\bcut\\b", "\\(rest\\)", "rounded up", "or part of", "left over", "of equal ones", "of as (good|few)( ones)?",
            "not one behind", "lowest", "lowest bits", "with their sign", "without sign", "[Aa]s ints"));

    final Checks checks = new Checks();
    private final Map<String, Section> sections = new LinkedHashMap<>();
    private final List<String> names = new ArrayList<>();
    private Section section;

    private static final class Section {
        final String title;
        final String words;
        final boolean[] named;

        Section(String title, String words) {
            this.title = title;
            this.words = words;
            named = new boolean[words.length()];
        }
    }

    Edges(String document) {
        for (String part : document.split("(?m)^## ")) {
            int line = part.indexOf('\n');
            String title = line < 0 ? part : part.substring(0, line).trim();
            sections.put(title, new Section(title, inOneLine(part.substring(title.length()))));
        }
    }

    private static String inOneLine(String words) {
        return words.replace("```text", " ").replace("```", " ").replaceAll("\\s+", " ").trim();
    }

    /** The edges that come next stand under this heading. */
    void of(String title) {
        section = sections.get(title);
        if (section == null) {
            throw new IllegalStateException("the document has no heading '" + title + "'");
        }
    }

    void edge(String words, Checks.Body body) {
        Section of = section;
        int at = of.words.indexOf(words);
        String name = of.title + ", '" + words + "'";
        names.add(name);
        for (int i = at; i >= 0 && i < at + words.length(); i++) {
            of.named[i] = true;
        }
        checks.test(name, () -> {
            if (at < 0 || of.words.indexOf(words, at + 1) >= 0) {
                checks.wrong("the document does not have these words, or has them twice");
            }
            body.run();
        });
    }

    /** Each boundary in Terms and in the promises must stand in the name of some test. */
    void allAreNamed() {
        int promises = 0;
        for (Section s : sections.values()) {
            boolean promise = s.title.startsWith("Promise ");
            promises += promise ? 1 : 0;
            if (promise || s.title.equals("Terms")) {
                checks.test(s.title + ": each boundary has its test", () -> namedIn(s));
            }
        }
        int found = promises;
        checks.test("48 promises", () -> checks.same("promises", found, 48));
    }

    private void namedIn(Section s) {
        // The face is told once more in code signs, and the headings of its parts have no boundaries.
        String words = s.title.equals("Terms") ? s.words.replaceAll("Ahead of the calls .*", "")
                : Pattern.compile("^`[^`]*`: ").matcher(s.words).replaceFirst(face -> " ".repeat(face.end()));
        Matcher m = NAMES_A_BOUNDARY.matcher(words);
        while (m.find()) {
            for (int i = m.start(); i < m.end(); i++) {
                if (!s.named[i] && words.charAt(i) != ' ') {
                    int from = Math.max(0, m.start() - 20);
                    int to = Math.min(words.length(), m.end() + 20);
                    checks.wrong("no test is named by '" + m.group() + "' in '" + words.substring(from, to) + "'");
                    break;
                }
            }
        }
    }

    /** All names, then each section with its named words left out. */
    void list() {
        for (String name : names) {
            System.out.println(name);
        }
        for (Section s : sections.values()) {
            StringBuilder b = new StringBuilder();
            for (int i = 0; i < s.words.length(); i++) {
                b.append(s.named[i] ? '_' : s.words.charAt(i));
            }
            System.out.println("UNNAMED " + s.title + ": " + b.toString().replaceAll("_+", "_"));
        }
    }
}
