import java.io.IOException;
import java.lang.reflect.Method;
import java.nio.file.Files;
import java.nio.file.Path;
import java.util.HashMap;
import java.util.List;
import java.util.Map;
import java.util.Set;
import java.util.TreeSet;
import java.util.regex.Matcher;
import java.util.regex.Pattern;

/** README.md's example answers what stands behind its lines, and its table has every call. */
public final class ReadmeTest {
    private static final Checks CHECKS = new Checks();
    private static final Pattern CALL = Pattern.compile("(?:int (\\w+) = )?plan\\.(\\w+)\\((.*?)\\);(?:\\s+//\\s*(.*))?");
    private static final Pattern ANSWER = Pattern.compile("(-?\\d+|true|false|throws \\w+).*");
    private static final Pattern TABLE_ROW = Pattern.compile("\\| `(\\w+)\\((.*?)\\)` \\|.*");

    public static void main(String[] args) throws IOException {
        List<String> lines = Files.readAllLines(Path.of("README.md"));
        example(lines.subList(lines.indexOf("```java") + 1, lines.lastIndexOf("```")));
        table(lines);
        CHECKS.end("ReadmeTest");
    }

    private static void example(List<String> lines) {
        PlanRows plan = new PlanRows();
        Map<String, String> numbers = new HashMap<>();
        Set<String> called = new TreeSet<>();
        for (String line : lines) {
            Matcher call = CALL.matcher(line);
            boolean isNoCall = line.isEmpty() || line.startsWith("//") || line.equals("PlanRows plan = new PlanRows();");
            CHECKS.same("a call or none: " + line, !isNoCall, call.matches());
            if (call.matches()) {
                called.add(call.group(2));
                Object answer = callOf(call.group(2), call.group(3), numbers).outcomeOn(plan);
                CHECKS.same(line, dueOf(call.group(4)), answer.toString());
                if (call.group(1) != null) {
                    numbers.put(call.group(1), answer.toString());
                }
            }
        }
        CHECKS.same("the example has every call", namesOfFace(), called);
    }

    private static PlanCall callOf(String name, String arguments, Map<String, String> numbers) {
        StringBuilder text = new StringBuilder(name);
        for (String argument : arguments.split(", ")) {
            text.append(' ').append(numbers.getOrDefault(argument, argument));
        }
        return PlanCall.of(text.toString());
    }

    private static String dueOf(String comment) {
        if (comment == null) {
            return "done";
        }
        Matcher answer = ANSWER.matcher(comment);
        return answer.matches() ? answer.group(1).replace("throws ", "throws.") : "no answer in: " + comment;
    }

    private static void table(List<String> lines) {
        Map<String, Integer> parameters = new HashMap<>();
        for (String line : lines) {
            Matcher row = TABLE_ROW.matcher(line);
            if (row.matches()) {
                parameters.put(row.group(1), row.group(2).split(", ").length);
            }
        }
        CHECKS.same("the table has every call", namesOfFace(), new TreeSet<>(parameters.keySet()));
        for (Method method : PlanRows.class.getDeclaredMethods()) {
            if (parameters.containsKey(method.getName())) {
                CHECKS.same("parameters of " + method.getName(), method.getParameterCount(), parameters.get(method.getName()));
            }
        }
    }

    private static Set<String> namesOfFace() {
        Set<String> names = new TreeSet<>();
        for (Method method : PlanRows.class.getMethods()) {
            if (method.getDeclaringClass() == PlanRows.class) {
                names.add(method.getName());
            }
        }
        return names;
    }
}
