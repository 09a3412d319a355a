import java.lang.reflect.Constructor;
import java.lang.reflect.Field;
import java.lang.reflect.Method;
import java.lang.reflect.Modifier;
import java.util.Arrays;
import java.util.List;
import java.util.Set;
import java.util.TreeSet;
import java.util.stream.Collectors;

/** The class has the document's public face and nothing more (rules 1 and 5 of the language). */
public final class FaceTest {
    private static final Checks CHECKS = new Checks();
    private static final String UNKNOWN = "IllegalArgumentException";
    private static final String RANGE = "IndexOutOfBoundsException";
    private static final String STATE = "IllegalStateException";
    private static final String NO_ROOM = "UnsupportedOperationException";

    public static void main(String[] args) {
        CHECKS.same("public and final", true,
                Modifier.isPublic(PlanRows.class.getModifiers()) && Modifier.isFinal(PlanRows.class.getModifiers()));
        methods();
        constructors();
        fields();
        nestedClasses();
        CHECKS.end("FaceTest");
    }

    private static void methods() {
        Set<String> due = new TreeSet<>(List.of(
                face("int room(int, int)", UNKNOWN, RANGE, NO_ROOM),
                face("int door(int, int, int, int)", UNKNOWN, RANGE, STATE, NO_ROOM),
                face("void key(int, boolean)", UNKNOWN, STATE),
                face("void hazard(int, int)", UNKNOWN, RANGE),
                face("int way(int, int, int)", UNKNOWN, RANGE),
                face("int step(int)", RANGE),
                face("int told(int)", UNKNOWN),
                face("int hoses(int, int)", UNKNOWN, RANGE),
                face("int trapped(int)", RANGE),
                face("int missing(int)", RANGE),
                face("void detector(int, int, int)", UNKNOWN, RANGE, STATE, NO_ROOM),
                face("int alarm(int, int)", RANGE),
                face("int people(int, int, int, int)", UNKNOWN, RANGE, NO_ROOM),
                face("int inside(int, int)", UNKNOWN, RANGE),
                face("int window(int, int, int, int)", UNKNOWN, RANGE, NO_ROOM),
                face("boolean reaches(int, int, int, int, int)", UNKNOWN, RANGE),
                face("int ladder(int, int, int, int)", UNKNOWN, RANGE),
                face("void look(int, int)", RANGE),
                face("boolean old(int)", RANGE),
                face("int count(int)", UNKNOWN)));
        Set<String> got = new TreeSet<>();
        Set<String> publicNames = new TreeSet<>();
        Set<String> privateNames = new TreeSet<>();
        for (Method m : PlanRows.class.getDeclaredMethods()) {
            if (Modifier.isPrivate(m.getModifiers())) {
                privateNames.add(m.getName());
            } else {
                publicNames.add(m.getName());
                got.add(Modifier.toString(m.getModifiers()) + " " + m.getReturnType() + " " + m.getName()
                        + names(m.getParameterTypes(), "(", ")") + names(m.getExceptionTypes(), " throws ", ""));
            }
        }
        CHECKS.same("methods", due, got);
        privateNames.retainAll(publicNames);
        CHECKS.same("private methods with a public name", Set.of(), privateNames);
    }

    private static String face(String signature, String... thrown) {
        return "public " + signature + " throws " + String.join(", ", thrown);
    }

    private static String names(Class<?>[] types, String before, String behind) {
        return Arrays.stream(types).map(Class::getSimpleName).collect(Collectors.joining(", ", before, behind));
    }

    private static void constructors() {
        Constructor<?>[] all = PlanRows.class.getDeclaredConstructors();
        CHECKS.same("constructors", 1, all.length);
        CHECKS.same("the constructor", "public PlanRows()", all[0].toString());
    }

    private static void fields() {
        for (Field f : PlanRows.class.getDeclaredFields()) {
            int modifiers = f.getModifiers();
            CHECKS.same("private: " + f.getName(), true, Modifier.isPrivate(modifiers));
            CHECKS.same("static only when final: " + f.getName(), true,
                    !Modifier.isStatic(modifiers) || Modifier.isFinal(modifiers));
        }
    }

    private static void nestedClasses() {
        for (Class<?> c : PlanRows.class.getDeclaredClasses()) {
            int modifiers = c.getModifiers();
            CHECKS.same("static: " + c.getName(), true, Modifier.isStatic(modifiers));
            CHECKS.same("not seen outside: " + c.getName(), false,
                    Modifier.isPublic(modifiers) || Modifier.isProtected(modifiers));
        }
    }
}
