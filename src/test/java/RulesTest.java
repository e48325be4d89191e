import java.io.IOException;
import java.nio.file.Files;
import java.nio.file.Path;
import java.util.List;
import java.util.Set;
import java.util.TreeSet;
import java.util.regex.Matcher;
import java.util.regex.Pattern;

/** The rules of LANGUAGE.md that can be read off the class's file. */
public final class RulesTest {
    private static final Path FILE = Path.of("src/main/java/FuseKinds.java");
    private static final Pattern METHOD = Pattern.compile(
        "^( {4}| {8})(public |private )?(static )?(int|void|boolean|long|int\\[\\]) (\\w+)\\((.*?)\\).*\\{$");

    public static void main(String[] args) throws IOException {
        Due due = new Due("rules");
        List<String> lines = Files.readAllLines(FILE);
        String code = String.join("\n", lines).replaceAll("/\\*(?s:.*?)\\*/", "").replaceAll("//.*", "");
        for (String never : new String[] {"->", "::", "\\btry\\b", "\\bcatch\\b", "\\bfinally\\b", "\\bassert\\b",
            "\\bsynchronized\\b", "Exact\\(", "\\bprotected\\b", "System\\.(?!arraycopy)", "\\bdouble\\b", "\\bfloat\\b",
            "\\bpackage\\b", "\\bstatic \\{", "\\btoString\\b", "\\bhashCode\\b", "static (?!final)\\w+ \\w+ ?[=;]"}) {
            due.same("never " + never, Pattern.compile(never).matcher(code).find(), false);
        }
        due.same("constructors are handed nothing", Pattern.compile("new (?!\\w+Exception)\\w+\\([^)]").matcher(code)
            .find(), false);
        due.same("imports", found(code, "import ([\\w.]+);"), Set.of("java.util.Arrays",
            "java.util.NoSuchElementException"));
        due.same("thrown", found(code, "throw new (\\w+)\\("), Set.of("IllegalArgumentException",
            "NoSuchElementException"));
        due.same("at most twelve classes", found(code, "class (\\w+)").size() <= 12, true);
        methods(due, lines);
        due.end();
    }

    private static Set<String> found(String code, String pattern) {
        Set<String> all = new TreeSet<>();
        Matcher matcher = Pattern.compile(pattern).matcher(code);
        while (matcher.find()) {
            all.add(matcher.group(1));
        }
        return all;
    }

    private static void methods(Due due, List<String> lines) {
        Set<String> open = new TreeSet<>();
        Set<String> hidden = new TreeSet<>();
        for (int at = 0; at < lines.size(); at++) {
            Matcher matcher = METHOD.matcher(lines.get(at));
            if (matcher.find()) {
                String name = matcher.group(5);
                ("public ".equals(matcher.group(2)) ? open : hidden).add(name);
                due.same("parameters of " + name, matcher.group(6).split(",").length <= 7, true);
                int end = at;
                while (!lines.get(end).equals(matcher.group(1) + "}")) {
                    end++;
                }
                due.same("lines of " + name, end - at <= 60, true);
            }
        }
        due.same("public methods", open.size(), 32);
        due.same("others", hidden.size() > 80, true);
        hidden.retainAll(open);
        due.same("names of public ones", hidden, Set.of());
    }
}
