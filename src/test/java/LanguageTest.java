import java.io.IOException;
import java.nio.file.Files;
import java.nio.file.Path;
import java.util.ArrayList;
import java.util.List;
import java.util.Map;
import java.util.Set;
import java.util.TreeMap;
import java.util.TreeSet;
import java.util.regex.Matcher;
import java.util.regex.Pattern;

/**
 * The rules of ../shared/LANGUAGE.md that a look at the source can tell, so that a change that leaves them is seen here
 * and not only when it is sent back. The source's path is the first argument.
 */
final class LanguageTest {
    private static final Check CHECK = new Check("LanguageTest");
    private static final List<String> FORBIDDEN = List.of(
        "->", "::", "\\bimport\\b", "\\bpackage\\b", "\\btry\\b", "\\bcatch\\b", "\\bfinally\\b", "\\bsynchronized\\b",
        "\\bassert\\b", "Exact\\(", "\\bMath\\.(?!max|min|abs|floorDiv|floorMod)", "\\bSystem\\.(?!arraycopy)",
        "\\bString\\.", "\\bString\\[", "\\bprotected\\b", "\\bstatic \\{", "\\bNaN\\b", "\\bfloat\\b", "\\bThread\\b",
        "\"\\s*\\+", "\\+\\s*\"", "\\.equals\\(", "\\bhashCode\\b", "\\btoString\\b", "\\[\\]\\[\\]\\[\\]");
    private static final Set<String> MAY_BE_MADE = Set.of("StringBuilder", "String", "int", "boolean", "char",
        "IllegalStateException", "IllegalArgumentException", "IndexOutOfBoundsException");
    private static final Pattern METHOD = Pattern.compile("^ +(?!return|throw|else|new)[\\w\\[\\] ]*\\b\\w+\\(([^()]*)\\)[^;=]*\\{$");

    public static void main(String[] args) throws IOException {
        String source = Files.readString(Path.of(args.length > 0 ? args[0] : "src/main/java/AdMarketplace.java"));
        String code = source.replaceAll("(?s)/\\*.*?\\*/", "").replaceAll("//[^\n]*", "");
        CHECK.due("all signs are ASCII", true, source.chars().allMatch(c -> c < 128));
        for (String pattern : FORBIDDEN) {
            Matcher m = Pattern.compile(pattern).matcher(code);
            CHECK.due("the source has " + pattern, false, m.find());
        }
        made(code);
        classes(code);
        methods(code);
        throwsOutsideConstructors(code);
        calls(code);
        CHECK.end();
    }

    private static void made(String code) {
        Matcher m = Pattern.compile("\\bnew (\\w+)").matcher(code);
        while (m.find()) {
            boolean own = code.contains("class " + m.group(1) + " {");
            CHECK.due("new " + m.group(1) + " is fine", true, own || MAY_BE_MADE.contains(m.group(1)));
        }
    }

    private static void classes(String code) {
        Matcher m = Pattern.compile("\\n([^\\n]*)\\bclass (\\w+)").matcher(code);
        int count = 0;
        while (m.find()) {
            count++;
            String due = m.group(2).equals("AdMarketplace") ? "public final" : "private static final";
            CHECK.due("class " + m.group(2), due, m.group(1).trim());
        }
        CHECK.due("some twelve classes at most", true, count >= 1 && count <= 13);
    }

    /** A method ends at the brace that stands as far in as its head. */
    private static void methods(String code) {
        String[] lines = code.split("\n");
        for (int i = 0; i < lines.length; i++) {
            Matcher m = METHOD.matcher(lines[i]);
            if (!m.matches() || lines[i].trim().matches("(if|for|while|switch|\\}).*")) {
                continue;
            }
            String indent = lines[i].substring(0, lines[i].length() - lines[i].stripLeading().length());
            int end = i;
            while (!lines[end].equals(indent + "}")) {
                end++;
            }
            CHECK.due("sixty lines at most: " + lines[i].trim(), true, end - i < 60);
            CHECK.due("seven parameters at most: " + lines[i].trim(), true, m.group(1).split(",").length <= 7);
        }
    }

    private static void throwsOutsideConstructors(String code) {
        Matcher m = Pattern.compile("(?s)\\n( +)(public )?([A-Z]\\w*)\\([^()]*\\) \\{\\n.*?\\n\\1\\}").matcher(code);
        int count = 0;
        while (m.find()) {
            count++;
            CHECK.due("constructor of " + m.group(3) + " throws", false, m.group().contains("throw "));
        }
        CHECK.due("constructors were found", true, count > 0);
    }

    /** Methods of the same name are taken as one, so a chain of calls may seem longer here than it is, never shorter. */
    private static void calls(String code) {
        Map<String, Set<String>> called = new TreeMap<>();
        Matcher head = Pattern.compile("\\b(?!(?:if|for|while|switch)\\b)(\\w+)\\([^()]*\\)\\s*(throws [\\w, \\n]+)?\\{").matcher(code);
        while (head.find()) {
            Matcher call = Pattern.compile("\\b(?!(?:if|for|while|switch|return)\\b)(\\w+)\\(").matcher(body(code, head.end()));
            Set<String> names = called.computeIfAbsent(head.group(1), name -> new TreeSet<>());
            while (call.find()) {
                names.add(call.group(1));
            }
        }
        CHECK.due("methods and constructors were found", true, called.size() > 100);
        for (String name : called.keySet()) {
            List<String> chain = longest(name, called, List.of());
            CHECK.due("calls eight deep at most: " + chain, true, chain.size() <= 8);
        }
    }

    private static String body(String code, int start) {
        int open = 1;
        int end = start;
        while (open > 0) {
            open += code.charAt(end) == '{' ? 1 : code.charAt(end) == '}' ? -1 : 0;
            end++;
        }
        return code.substring(start, end);
    }

    private static List<String> longest(String name, Map<String, Set<String>> called, List<String> before) {
        List<String> chain = new ArrayList<>(before);
        chain.add(name);
        CHECK.due("recursion: " + chain, false, before.contains(name));
        List<String> best = chain;
        for (String next : before.contains(name) ? Set.<String>of() : called.getOrDefault(name, Set.of())) {
            List<String> longer = longest(next, called, chain);
            best = longer.size() > best.size() ? longer : best;
        }
        return best;
    }
}
