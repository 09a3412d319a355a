import java.lang.reflect.InvocationTargetException;
import java.lang.reflect.Method;
import java.util.Arrays;
import java.util.HashMap;
import java.util.Map;
import java.util.stream.Collectors;

/** A call by its name and arguments (true counts 1, false 0), for PlanRows and PlainPlan alike. */
record PlanCall(String name, int... arguments) {
    private static final Map<Class<?>, Map<String, Method>> METHODS = new HashMap<>();

    /** Written as "room 20 0"; min and max are the lowest and the highest int. */
    static PlanCall of(String text) {
        String[] words = text.trim().split(" +");
        int[] arguments = new int[words.length - 1];
        for (int i = 0; i < arguments.length; i++) {
            arguments[i] = number(words[i + 1]);
        }
        return new PlanCall(words[0], arguments);
    }

    private static int number(String word) {
        return switch (word) {
            case "min" -> Integer.MIN_VALUE;
            case "max" -> Integer.MAX_VALUE;
            case "true" -> 1;
            case "false" -> 0;
            default -> Integer.parseInt(word);
        };
    }

    String text() {
        return Arrays.stream(arguments).mapToObj(Integer::toString).collect(Collectors.joining(", ", name + "(", ")"));
    }

    /**
     * The answer, "done" where there is none, or the exception's name behind "throws.". Its own class
     * counts: what the machine throws is often of a class below the due one.
     */
    Object outcomeOn(Object plan) {
        Method method = methodOf(plan.getClass(), name);
        try {
            Object answer = method.invoke(plan, argumentsFor(method));
            return answer == null ? "done" : answer;
        } catch (InvocationTargetException e) {
            return "throws." + e.getCause().getClass().getSimpleName();
        } catch (IllegalAccessException e) {
            throw new IllegalStateException(e);
        }
    }

    private static Method methodOf(Class<?> of, String name) {
        return METHODS.computeIfAbsent(of, PlanCall::methodsOf).get(name);
    }

    private static Map<String, Method> methodsOf(Class<?> of) {
        return Arrays.stream(of.getMethods()).collect(Collectors.toMap(Method::getName, m -> m, (m, n) -> m));
    }

    private Object[] argumentsFor(Method method) {
        Class<?>[] types = method.getParameterTypes();
        Object[] all = new Object[arguments.length];
        for (int i = 0; i < all.length; i++) {
            all[i] = types[i] == boolean.class ? (Object) (arguments[i] % 2 != 0) : (Object) arguments[i];
        }
        return all;
    }
}
