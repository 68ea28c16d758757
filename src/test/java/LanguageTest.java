import java.nio.file.Files;
import java.nio.file.Path;
import java.util.List;
import java.util.regex.Matcher;
import java.util.regex.Pattern;

/** The rules of ../shared/LANGUAGE.md that the source's words can show; started in the project's folder. */
public final class LanguageTest {
    private static final String[] FORBIDDEN = {"\\bthrow\\b", "\\btry\\b", "\\bcatch\\b", "\\bsynchronized\\b", "\\bassert\\b",
        "->", "::", "\\bimport\\b", "\\bpackage\\b", "\\bequals\\b", "\\bhashCode\\b", "\\btoString\\b", "\\bMap\\b",
        "Exact\\b", "\\b(MAX|MIN)_VALUE\\b", "\\bprotected\\b", "\\bvar\\b", "\\bObject\\b", "\\+ \"", "\" \\+", "static \\{"};

    public static void main(String[] args) throws Exception {
        Check check = new Check("language");
        List<String> lines = Files.readAllLines(Path.of("src/main/java/FoldedMonths.java"));
        for (String pattern : FORBIDDEN) {
            for (int i = 0; i < lines.size(); i++) {
                check.holds("line " + (i + 1) + " is free of " + pattern, !Pattern.compile(pattern).matcher(code(lines.get(i))).find());
            }
        }
        boolean inConstructor = false;
        String head = "";
        int start = 0;
        for (int i = 0; i < lines.size(); i++) {
            String line = code(lines.get(i));
            Matcher method = Pattern.compile("^( {4}| {8})(?!if |for |while |switch |do )[A-Za-z].*\\(.*\\) \\{$").matcher(line);
            if (method.matches()) {
                head = method.group(1);
                start = i;
                inConstructor = Pattern.compile("^ +(public )?(FoldedMonths|Diary|Pad)\\(").matcher(line).find();
                int commas = line.substring(line.indexOf('('), line.indexOf(')')).split(",").length;
                check.holds("line " + (i + 1) + " has at most seven parameters", commas <= 7);
            }
            check.holds("line " + (i + 1) + " makes nothing outside of constructors",
                !Pattern.compile("\\bnew\\b").matcher(line).find() || inConstructor);
            if (line.equals(head + "}")) {
                check.holds("the method at line " + (start + 1) + " is short", i - start <= 60);
            }
        }
        check.end();
    }

    private static String code(String line) {
        String trimmed = line.trim();
        return trimmed.startsWith("//") || trimmed.startsWith("*") || trimmed.startsWith("/*") ? "" : line;
    }
}
