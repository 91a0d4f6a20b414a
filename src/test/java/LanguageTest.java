import java.nio.file.Files;
import java.nio.file.Path;
import java.util.ArrayList;
import java.util.List;
import java.util.Set;
import java.util.TreeSet;
import java.util.regex.Matcher;
import java.util.regex.Pattern;

/** Holds the source against what of LANGUAGE.md can be seen in its text. Run from the project's folder. */
public final class LanguageTest {
    private static int wrong;

    private static void bad(String rule, String what) {
        wrong++;
        System.out.println("rule " + rule + ": " + what);
    }

    private static void none(String rule, String source, String pattern) {
        Matcher m = Pattern.compile(pattern).matcher(source);
        while (m.find()) {
            int line = source.substring(0, m.start()).split("\n", -1).length;
            bad(rule, "line " + line + ": " + m.group());
        }
    }

    private static String bare(String source) {
        String s = source.replaceAll("(?s)/\\*.*?\\*/", " ").replaceAll("//[^\n]*", "");
        return s.replaceAll("\"[^\"\n]*\"", "\"\"").replaceAll("'[^'\n]+'", "' '");
    }

    private static int braces(String line) {
        int n = 0;
        for (char c : line.toCharArray()) {
            n += c == '{' ? 1 : c == '}' ? -1 : 0;
        }
        return n;
    }

    private static void methods(String source) {
        Pattern head = Pattern.compile(
            "^ +(public |private |static |final )*[\\w\\[\\]]+ (\\w+)\\(([^)]*)\\)( throws [\\w, ]+)? ?\\{?$");
        Set<String> open = new TreeSet<>();
        List<String> own = new ArrayList<>();
        String[] lines = source.split("\n");
        for (int i = 0; i < lines.length; i++) {
            Matcher m = head.matcher(lines[i]);
            if (!m.matches() || lines[i].contains("return ") || lines[i].contains("else ")) {
                continue;
            }
            (lines[i].contains("public ") ? open : own).add(m.group(2));
            if (!m.group(3).isEmpty() && m.group(3).split(",").length > 7) {
                bad("11", m.group(2) + " takes more than seven");
            }
            int depth = 0;
            int k = i;
            do {
                depth += braces(lines[k]);
                k++;
            } while (k < lines.length && (depth > 0 || k == i + 1 && !lines[i].contains("{")));
            if (k - i > 60) {
                bad("11", m.group(2) + " has " + (k - i) + " lines");
            }
        }
        open.remove("StreetDreams");
        if (open.size() != 50) {
            bad("1", "public methods: " + open.size());
        }
        if (own.size() < 50) {
            bad("test", "found only " + own.size() + " own methods");
        }
        for (String name : own) {
            if (open.contains(name)) {
                bad("1", "a method of its own is called " + name);
            }
        }
    }

    public static void main(String[] args) throws Exception {
        String text = Files.readString(Path.of("src/main/java/StreetDreams.java"));
        for (char c : text.toCharArray()) {
            if (c > 127) {
                bad("4", "sign " + (int) c);
            }
        }
        String s = bare(text);
        none("1", s, "\\bprotected\\b|\\bpackage\\b");
        none("2", s, "->|::|\\brecord\\b");
        none("3", s, "\\b(double|float|var|Object|Map|Set|HashMap|Integer\\[\\])\\b");
        none("4", s, "import (?!java\\.util\\.(Arrays|NoSuchElementException);)");
        none("4", s, "\\w+Exact\\(|String\\.(format|valueOf)|System\\.(?!arraycopy)|Arrays\\.(?!fill|copyOf)");
        none("5", s, "static (?!final|boolean|int \\w+\\(|void|int\\[\\] \\w+\\()\\w+|static \\{");
        none("6", s, "\\b(finally|synchronized|assert|try|catch|hashCode|toString)\\b");
        none("6", s, "throw (?!new (IndexOutOfBounds|NoSuchElement|IllegalArgument|IllegalState)\\w*Exception\\(\"\"\\);)");
        none("9", s, "while \\(true\\)|for \\(;;");
        none("10", s, "\"\" \\+|\\+ \"\"");
        methods(s);
        int classes = s.split("\\bclass \\w+", -1).length - 1;
        if (classes > 12) {
            bad("11", classes + " classes");
        }
        System.out.println(wrong == 0 ? "nothing outside the language was seen" : wrong + " places outside the language");
        System.exit(wrong == 0 ? 0 : 1);
    }
}
