import java.lang.reflect.Array;
import java.lang.reflect.Field;
import java.lang.reflect.Modifier;
import java.util.Collections;
import java.util.IdentityHashMap;
import java.util.Random;
import java.util.Set;

/**
 * "All memory is rows made once": what a plan holds behind its calls are the very objects and arrays
 * that it held when it was new, and there are few of them.
 */
public final class MemoryTest {
    private static final Checks CHECKS = new Checks();
    private static final int CALLS = 512;
    /** All plans and calls of one run have 600,000 objects and 7.3 million fields and elements. */
    private static final int MOST_OBJECTS = 60;
    private static final int MOST_SLOTS = 1500;

    private static final String[] NAMES = {"room", "door", "key", "hazard", "way", "step", "told", "hoses", "trapped", "missing", "detector",
        "alarm", "people", "inside", "window", "reaches", "ladder", "look", "old", "count"};

    public static void main(String[] args) throws IllegalAccessException {
        for (int seed = 1; seed <= 200; seed++) {
            PlanRows plan = new PlanRows();
            Set<Object> before = heldBy(plan);
            CHECKS.same("few objects", true, before.size() <= MOST_OBJECTS);
            CHECKS.same("few fields and elements", true, slotsOf(before) <= MOST_SLOTS);
            callAll(plan, new Random(seed));
            CHECKS.same("seed " + seed + ": the same objects", true, areSame(before, heldBy(plan)));
        }
        CHECKS.end("MemoryTest");
    }

    private static void callAll(PlanRows plan, Random random) {
        for (int call = 0; call < CALLS; call++) {
            // With more rooms than other things most calls find theirs.
            String name = call % 8 == 0 ? "room" : NAMES[random.nextInt(NAMES.length)];
            new PlanCall(name, arguments(name, random)).outcomeOn(plan);
        }
    }

    private static int[] arguments(String name, Random random) {
        return switch (name) {
            case "room" -> below(random, 3, 3);
            case "door" -> below(random, 20, 20, 501, 31);
            case "key" -> below(random, 31, 2);
            case "hazard" -> below(random, 20, 256);
            case "way" -> below(random, 20, 3, 256);
            case "hoses" -> below(random, 20, 101);
            case "detector" -> below(random, 10, 100, 20);
            case "alarm" -> below(random, 10, 100);
            case "people" -> below(random, 20, 24, 24, 1000);
            case "inside" -> below(random, 20, 24);
            case "window", "ladder" -> below(random, 20, 200001, 200001, 200001);
            case "reaches" -> below(random, 20, 200001, 200001, 200001, 200001);
            case "look" -> below(random, 1000, 10001);
            case "told", "count" -> below(random, 6);
            default -> below(random, 40);
        };
    }

    private static int[] below(Random random, int... ends) {
        int[] all = new int[ends.length];
        for (int i = 0; i < all.length; i++) {
            all[i] = random.nextInt(ends[i]);
        }
        return all;
    }

    private static boolean areSame(Set<Object> before, Set<Object> behind) {
        return before.size() == behind.size() && before.containsAll(behind);
    }

    private static Set<Object> heldBy(Object plan) throws IllegalAccessException {
        Set<Object> held = Collections.newSetFromMap(new IdentityHashMap<>());
        collect(plan, held);
        return held;
    }

    private static void collect(Object object, Set<Object> held) throws IllegalAccessException {
        if (object == null || !held.add(object)) {
            return;
        }
        if (object instanceof Object[] array) {
            for (Object element : array) {
                collect(element, held);
            }
        }
        for (Field field : object.getClass().getDeclaredFields()) {
            if (!Modifier.isStatic(field.getModifiers()) && !field.getType().isPrimitive()) {
                field.setAccessible(true);
                collect(field.get(object), held);
            }
        }
    }

    private static int slotsOf(Set<Object> held) {
        int slots = 0;
        for (Object object : held) {
            slots += object.getClass().isArray() ? Array.getLength(object) : object.getClass().getDeclaredFields().length;
        }
        return slots;
    }
}
