import java.util.ArrayList;
import java.util.List;
import java.util.Random;
import java.util.Set;
import java.util.TreeSet;

/**
 * Runs of calls with all kinds of arguments, right and wrong, on the class and on PlainPlan: both
 * answer alike, and what is refused shows in no later answer. The seeds are fixed.
 */
public final class RandomRunsTest {
    private static final Checks CHECKS = new Checks();
    private static final int CALLS = 512;
    private static final Set<String> HAD_NO_ROOM = new TreeSet<>();

    /** A method, how often it is called, and the ranges of its arguments. */
    private record Kind(String name, int weight, int... ranges) { }

    /** Few rooms with short doors, so that many ways are equally long. */
    private static final List<Kind> WAYS = List.of(
            new Kind("room", 4, 0, 3, 0, 2), new Kind("door", 12, 0, 6, 0, 6, 1, 3, 0, 3),
            new Kind("key", 8, 1, 3, 0, 1), new Kind("hazard", 6, 0, 6, 0, 3), new Kind("way", 30, 0, 6, 0, 2, 0, 3),
            new Kind("step", 40, 0, 5), new Kind("told", 20, 0, 2), new Kind("hoses", 10, 0, 6, 1, 4),
            new Kind("trapped", 10, 0, 3), new Kind("missing", 8, 0, 2), new Kind("count", 3, 0, 4));

    /** Rooms and doors up to the limits; trying all ways would take too long there. */
    private static final List<Kind> DOORS = List.of(
            new Kind("room", 20, 0, 2, 0, 2), new Kind("door", 50, 0, 39, 0, 39, 1, 500, 0, 30),
            new Kind("key", 10, 1, 30, 0, 1), new Kind("hazard", 2, 0, 39, 0, 255), new Kind("missing", 10, 0, 20),
            new Kind("count", 5, 0, 4));

    /** Detectors and people up to the limits. */
    private static final List<Kind> ROWS = List.of(
            new Kind("room", 5, 0, 19, 0, 2), new Kind("detector", 50, 1, 3, 1, 60, 0, 9),
            new Kind("alarm", 15, 1, 3, 1, 60), new Kind("people", 25, 0, 9, 0, 23, 0, 23, 0, 999),
            new Kind("inside", 15, -1, 19, 0, 23), new Kind("count", 2, 0, 4));

    /** Windows up to the limit, anywhere, and days anywhere. */
    private static final List<Kind> WINDOWS = List.of(
            new Kind("room", 5, 0, 19, 0, 2),
            new Kind("window", 20, 0, 9, -200000, 200000, -200000, 200000, -200000, 200000),
            new Kind("reaches", 20, 0, 29, -200000, 200000, -200000, 200000, -200000, 0, 1, 200000),
            new Kind("ladder", 20, 0, 29, -200000, 200000, -200000, 200000, -200000, 0),
            new Kind("look", 3, 0, 3000, 1, 10000), new Kind("old", 12, 0, 12000), new Kind("count", 2, 0, 4));

    /** Windows and ladders near each other. */
    private static final List<Kind> LADDERS = List.of(
            new Kind("room", 2, 0, 1, 0, 2), new Kind("window", 10, 0, 1, -9, 9, -9, 9, -9, 9),
            new Kind("reaches", 20, 0, 12, -9, 9, -9, 9, -9, 9, 1, 20), new Kind("ladder", 20, 0, 12, -9, 9, -9, 9, -9, 9),
            new Kind("look", 3, 0, 30, 1, 9), new Kind("old", 6, 0, 40));

    public static void main(String[] args) {
        for (int seed = 1; seed <= 400; seed++) {
            run(seed, WAYS, 7, 14);
        }
        for (int seed = 1; seed <= 100; seed++) {
            for (List<Kind> kinds : List.of(DOORS, ROWS, WINDOWS, LADDERS)) {
                run(seed, kinds, Integer.MAX_VALUE, Integer.MAX_VALUE);
            }
        }
        CHECKS.same("every limit was met", Set.of("room", "door", "detector", "people", "window"), HAD_NO_ROOM);
        CHECKS.end("RandomRunsTest");
    }

    private static void run(int seed, List<Kind> kinds, int mostRooms, int mostDoors) {
        Random random = new Random(seed);
        PlanRows plan = new PlanRows();
        PlainPlan plain = new PlainPlan();
        for (int call = 0; call < CALLS; call++) {
            Kind kind = pick(random, kinds);
            boolean isTooMuch = kind.name.equals("room") && plain.count(0) >= mostRooms
                    || kind.name.equals("door") && plain.count(1) >= mostDoors;
            if (!isTooMuch) {
                PlanCall made = new PlanCall(kind.name, arguments(random, kind));
                Object due = made.outcomeOn(plain);
                if (due.equals("throws.UnsupportedOperationException")) {
                    HAD_NO_ROOM.add(kind.name);
                }
                CHECKS.same("seed " + seed + ", call " + call + ", " + made.text(), due, made.outcomeOn(plan));
            }
        }
    }

    private static Kind pick(Random random, List<Kind> kinds) {
        List<Kind> weighed = new ArrayList<>();
        for (Kind kind : kinds) {
            for (int i = 0; i < kind.weight; i++) {
                weighed.add(kind);
            }
        }
        return weighed.get(random.nextInt(weighed.size()));
    }

    private static int[] arguments(Random random, Kind kind) {
        int[] all = new int[kind.ranges.length / 2];
        for (int i = 0; i < all.length; i++) {
            all[i] = number(random, kind.ranges[2 * i], kind.ranges[2 * i + 1]);
        }
        return all;
    }

    private static int number(Random random, int least, int most) {
        int wild = random.nextInt(200);
        if (wild == 0) {
            return random.nextInt();
        }
        if (wild == 1) {
            return random.nextBoolean() ? Integer.MIN_VALUE : Integer.MAX_VALUE;
        }
        if (wild < 8) {
            return random.nextBoolean() ? least - 1 : most + 1;
        }
        if (wild < 20) {
            return random.nextBoolean() ? least : most;
        }
        return least + random.nextInt(most - least + 1);
    }
}
