import java.lang.reflect.Method;
import java.nio.file.Files;
import java.nio.file.Path;
import java.util.List;
import java.util.TreeSet;
import java.util.regex.Matcher;
import java.util.regex.Pattern;

/** The example of README.md: each of its calls answers the number that stands behind it; started in the project's folder. */
public final class ReadmeTest {
    private static final Pattern CALL = Pattern.compile("diary\\.(\\w+)\\((.*)\\); +// (-?\\d+)(:.*)?");

    private static final Check CHECK = new Check("readme");

    public static void main(String[] args) throws Exception {
        List<String> lines = Files.readAllLines(Path.of("README.md"));
        int start = lines.indexOf("```java");
        int end = lines.lastIndexOf("```");
        CHECK.holds("README.md has an example", start >= 0 && start < end);
        CHECK.holds("it makes a diary", lines.get(start + 1).equals("FoldedMonths diary = new FoldedMonths();"));
        FoldedMonths diary = new FoldedMonths();
        TreeSet<String> called = new TreeSet<>();
        for (String line : lines.subList(start + 2, end)) {
            Matcher call = CALL.matcher(line);
            CHECK.holds("a call with its answer: " + line, line.isEmpty() || call.matches());
            if (call.matches()) {
                called.add(call.group(1));
                CHECK.due(line, answer(diary, call.group(1), call.group(2)), Long.parseLong(call.group(3)));
            }
        }
        for (Method method : FoldedMonths.class.getMethods()) {
            boolean ofFace = method.getDeclaringClass() == FoldedMonths.class;
            CHECK.holds("the example shows " + method.getName(), !ofFace || called.contains(method.getName()));
        }
        for (String file : new java.io.File("src/test/java").list()) {
            boolean named = String.join("\n", lines).contains("`" + file.replace(".java", "") + "`");
            CHECK.holds("README.md tells of " + file, !file.endsWith("Test.java") || named);
        }
        CHECK.end();
    }

    private static int answer(FoldedMonths diary, String name, String arguments) throws Exception {
        String[] words = arguments.isEmpty() ? new String[0] : arguments.split(", ");
        for (Method method : FoldedMonths.class.getMethods()) {
            if (method.getName().equals(name) && method.getParameterCount() == words.length) {
                Object[] values = new Object[words.length];
                for (int i = 0; i < words.length; i++) {
                    long value = valueOf(words[i]);
                    values[i] = method.getParameterTypes()[i] == long.class ? (Object) value : (Object) (int) value;
                }
                return (Integer) method.invoke(diary, values);
            }
        }
        throw new IllegalArgumentException("no such method: " + name + "(" + arguments + ")");
    }

    private static long valueOf(String word) throws Exception {
        if (word.startsWith("FoldedMonths.")) {
            return FoldedMonths.class.getField(word.substring("FoldedMonths.".length())).getInt(null);
        }
        return Long.decode(word.replace("L", ""));
    }
}
