import java.io.IOException;
import java.lang.reflect.Field;
import java.lang.reflect.Method;
import java.lang.reflect.Modifier;
import java.nio.file.Files;
import java.nio.file.Path;
import java.util.ArrayList;
import java.util.Arrays;
import java.util.List;
import java.util.Set;
import java.util.TreeSet;
import java.util.regex.Matcher;
import java.util.regex.Pattern;

/** The rules of LANGUAGE.md that can be seen from the class's text and its members. */
public final class LanguageTest {
    private static final Checks CHECKS = new Checks();
    private static final Path TEXT = Path.of("src/main/java/PlanRows.java");
    private static final Pattern COMMENT_OR_TEXT = Pattern.compile("/\\*.*?\\*/|//[^\n]*|\"[^\"\n]*\"", Pattern.DOTALL);
    private static final String LIBRARY_CALL = "\\b[A-Z][a-z]\\w*\\.\\w+";
    private static final String THROWN = "\\bthrow\\b[^;]*;";
    private static final Pattern METHOD_HEAD = Pattern.compile("    (?:    )?\\S.*\\w\\(.*\\).* \\{");

    /** Words and signs of what the rules leave out, or allow under conditions that the class does without. */
    private static final List<String> LEFT_OUT = List.of("->", "::", "package ", "try ", "catch ", "finally", "synchronized", "assert ",
            "instanceof", "Exact", "double", "float", "protected", "volatile", "native", "transient", "Thread", "System", "Random", "var ",
            "equals", "hashCode", "toString", "Object", "goto", "@");

    public static void main(String[] args) throws IOException {
        String text = Files.readString(TEXT);
        String code = COMMENT_OR_TEXT.matcher(text).replaceAll("\"\"");
        for (String word : LEFT_OUT) {
            CHECKS.same("without " + word, false, code.contains(word));
        }
        CHECKS.same("rule 4: imports", Set.of("import java.util.Arrays;"), found("import [^;]*;", code));
        CHECKS.same("rule 4: the library", Set.of("Arrays.fill", "Math.abs"), found(LIBRARY_CALL, code));
        exceptions(code);
        objectsMade(code);
        methods(text);
        classes();
        CHECKS.end("LanguageTest");
    }

    private static Set<String> found(String pattern, String code) {
        Set<String> all = new TreeSet<>();
        Matcher matcher = Pattern.compile(pattern).matcher(code);
        while (matcher.find()) {
            all.add(matcher.group());
        }
        return all;
    }

    private static void exceptions(String code) {
        for (String thrown : found(THROWN, code)) {
            CHECKS.same("rule 6: " + thrown, true,
                    thrown.matches("throw new (IllegalArgument|IndexOutOfBounds|IllegalState|UnsupportedOperation)Exception\\(\"\"\\);"));
        }
    }

    /** Rows are made in fields and constructors alone. */
    private static void objectsMade(String code) {
        code.lines().filter(line -> line.contains("new ")).forEach(line -> CHECKS.same("rule 12: " + line.trim(), true,
                line.matches(" +private final \\w+\\[] \\w+ = new \\w+\\[\\w+(?: \\+ 1)?];|        \\w+ = new [A-Z]\\w+\\(.*\\);|.*throw new .*")));
    }

    private static void methods(String text) {
        List<String> lines = new ArrayList<>(Arrays.asList(text.split("\n")));
        for (int i = 0; i < lines.size(); i++) {
            String head = lines.get(i);
            boolean isMethod = METHOD_HEAD.matcher(head).matches() && !head.matches(" +(if|for|while|switch|do|return|\\}).*");
            if (isMethod) {
                String end = head.replaceAll("\\S.*", "") + "}";
                int length = lines.subList(i, lines.size()).indexOf(end) + 1;
                CHECKS.same("rule 11: short: " + head.trim(), true, length > 1 && length <= 60);
            }
        }
    }

    private static void classes() {
        List<Class<?>> all = new ArrayList<>(List.of(PlanRows.class));
        all.addAll(List.of(PlanRows.class.getDeclaredClasses()));
        CHECKS.same("rule 11: at most twelve classes", true, all.size() <= 12);
        for (Class<?> one : all) {
            CHECKS.same("rule 11: no class deeper inside: " + one, 0, one == PlanRows.class ? 0 : one.getDeclaredClasses().length);
            CHECKS.same("rule 11: at most twenty fields: " + one, true,
                    Arrays.stream(one.getDeclaredFields()).filter(field -> !Modifier.isStatic(field.getModifiers())).count() <= 20);
            for (Field field : one.getDeclaredFields()) {
                staticFieldIsConstant(one, field);
            }
            for (Method method : one.getDeclaredMethods()) {
                CHECKS.same("rule 11: at most seven parameters: " + method, true, method.getParameterCount() <= 7);
                CHECKS.same("rule 1: no name of the face: " + method, true, one == PlanRows.class || !isOfFace(method.getName()));
            }
        }
    }

    private static void staticFieldIsConstant(Class<?> one, Field field) {
        int modifiers = field.getModifiers();
        if (Modifier.isStatic(modifiers)) {
            CHECKS.same("rule 5: a constant: " + one + " " + field.getName(), true, Modifier.isFinal(modifiers) && field.getType() == int.class);
        }
    }

    private static boolean isOfFace(String name) {
        return Arrays.stream(PlanRows.class.getDeclaredMethods()).anyMatch(m -> Modifier.isPublic(m.getModifiers()) && m.getName().equals(name));
    }
}
