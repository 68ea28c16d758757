import java.nio.file.Files;
import java.nio.file.Path;
import java.util.ArrayList;
import java.util.List;
import java.util.Map;
import java.util.TreeMap;
import java.util.TreeSet;
import java.util.regex.Matcher;
import java.util.regex.Pattern;

/**
 * How deep the calls of the class go, the library's with them: at most eight methods, and none calls itself, also not by way
 * of others (LANGUAGE.md, the rules 8 and 11); started in the project's folder.
 */
public final class DepthTest {
    private static final int MOST_CALLS = 8;
    private static final Pattern HEAD = Pattern.compile("^( {4}| {8})[A-Za-z][\\w<>\\[\\] ]* (\\w+)\\(.*\\) \\{$");
    private static final Pattern CONSTRUCTOR = Pattern.compile("^( {4}| {8})(?:public )?([A-Z]\\w*)\\(.*\\) \\{$");
    private static final Pattern CALLED = Pattern.compile("([\\w.]*\\b\\w+)\\(");

    private static final Check CHECK = new Check("depth");
    private static final Map<String, TreeSet<String>> CALLS = new TreeMap<>();
    private static final Map<String, Integer> DEPTHS = new TreeMap<>();

    public static void main(String[] args) throws Exception {
        readMethods(Files.readAllLines(Path.of("src/main/java/FoldedMonths.java")));
        CHECK.holds("methods were found: " + CALLS.size(), CALLS.size() > 80);
        for (String method : CALLS.keySet()) {
            List<String> way = new ArrayList<>();
            int depth = depthOf(method, way);
            CHECK.holds(method + " goes " + depth + " deep", depth <= MOST_CALLS);
        }
        CHECK.due("the deepest is both()", DEPTHS.getOrDefault("both", 0), 8);
        CHECK.end();
    }

    private static void readMethods(List<String> lines) {
        String end = "";
        String method = "";
        for (String line : lines) {
            Matcher head = HEAD.matcher(line);
            Matcher constructor = CONSTRUCTOR.matcher(line);
            if (method.isEmpty() && (head.matches() || constructor.matches())) {
                boolean plain = head.matches();
                method = plain ? head.group(2) : "new " + constructor.group(2);
                end = (plain ? head.group(1) : constructor.group(1)) + "}";
                CHECK.holds("one method alone is called " + method, CALLS.put(method, new TreeSet<>()) == null);
            } else if (line.equals(end)) {
                method = "";
                end = "";
            } else if (!method.isEmpty()) {
                addCalls(method, line);
            }
        }
        CHECK.due("the last method has an end", method.length(), 0);
    }

    private static void addCalls(String method, String line) {
        Matcher called = CALLED.matcher(line.replaceAll("//.*", "").replaceAll("'.'", "").replaceAll("\\bnew (\\w+)\\(", "new_$1("));
        while (called.find()) {
            String name = called.group(1);
            boolean library = name.matches("(Integer|Math|System)\\..*");
            CALLS.get(method).add(library ? name : name.substring(name.lastIndexOf('.') + 1).replace("new_", "new "));
        }
    }

    private static int depthOf(String method, List<String> way) {
        if (way.contains(method)) {
            CHECK.holds("no recursion: " + way + ", " + method, false);
            return 1;
        }
        if (DEPTHS.containsKey(method)) {
            return DEPTHS.get(method);
        }
        way.add(method);
        int below = 0;
        for (String called : CALLS.getOrDefault(method, new TreeSet<>())) {
            below = Math.max(below, depthOf(called, way));
        }
        way.remove(method);
        DEPTHS.put(method, below + 1);
        return below + 1;
    }
}
