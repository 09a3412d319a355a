import java.util.ArrayList;
import java.util.List;

/**
 * Each call with each choice of arguments at and beyond the edges of their ranges, on an empty plan, a
 * small one and full ones: the answer or the refusal is PlainPlan's, so of several refusals at once it
 * is the first one of the document's order; and so are some answers behind it.
 */
public final class RefusalGridTest {
    private static final Checks CHECKS = new Checks();
    private static final int MIN = Integer.MIN_VALUE;
    private static final int MAX = Integer.MAX_VALUE;

    private static final int[] ROOMS = {MIN, -1, 0, 1, 4, 5, 39, 40, MAX};
    private static final int[] KINDS = {MIN, -1, 0, 1, 2, 3, MAX};
    private static final int[] FLOORS = {MIN, -2, -1, 0, 19, 20, MAX};
    private static final int[] METRES = {MIN, -1, 0, 1, 500, 501, MAX};
    private static final int[] KEYS = {MIN, -1, 0, 1, 7, 30, 31, MAX};
    private static final int[] SWITCHES = {0, 1};
    private static final int[] HAZARDS = {MIN, -1, 0, 1, 4, 255, 256, MAX};
    private static final int[] HOSES = {MIN, -1, 0, 1, 100, 101, MAX};
    private static final int[] PLACES = {MIN, -1, 0, 1, 2, 3, 29, 30, 39, 40, MAX};
    private static final int[] LOOPS = {MIN, -1, 0, 1, 9, 10, MAX};
    private static final int[] NUMBERS = {MIN, -1, 0, 1, 99, 100, MAX};
    private static final int[] HOURS = {MIN, -1, 0, 8, 17, 23, 24, MAX};
    private static final int[] AMOUNTS = {MIN, -1, 0, 999, 1000, MAX};
    private static final int[] WINDOWS = {MIN, -1, 0, 1, 2, 29, 30, MAX};
    private static final int[] POINTS = {MIN, -200001, -200000, 0, 200000, 200001, MAX};
    private static final int[] LENGTHS = {MIN, -1, 0, 1, 200000, 200001, MAX};
    private static final int[] DAYS = {MIN, -1, 0, 9, 10, 11, 110, 111, 365, 366, 99999, 100000, MAX};
    private static final int[] TERMS = {MIN, -1, 0, 1, 10000, 10001, MAX};
    private static final int[] WHATS = {MIN, -1, 0, 1, 2, 3, 4, 5, MAX};

    private static final List<PlanCall> EMPTY = List.of();
    private static final List<PlanCall> HOUSE = callsOf(Sentences.HOUSE);
    /** Some answers of each kind; the last ones change the plan. */
    private static final List<PlanCall> BEHIND = callsOf("""
            count 0
            count 1
            count 2
            count 3
            count 4
            told 0
            told 1
            told 2
            step 0
            missing 0
            missing 1
            trapped 0
            trapped 1
            alarm 1 99
            alarm 1 1
            alarm 9 99
            inside -1 12
            inside -1 0
            ladder 0 0 0 -5
            ladder 1 0 0 -5
            old 110
            old 111
            old 366
            look 10 20
            way 3 2 1
            people 0 12 12 1
            """);

    public static void main(String[] args) {
        onAllPlans("room", FLOORS, KINDS);
        onAllPlans("door", ROOMS, ROOMS, METRES, KEYS);
        onAllPlans("key", KEYS, SWITCHES);
        onAllPlans("hazard", ROOMS, HAZARDS);
        onAllPlans("way", ROOMS, KINDS, HAZARDS);
        onAllPlans("step", PLACES);
        onAllPlans("told", WHATS);
        onAllPlans("hoses", ROOMS, HOSES);
        onAllPlans("trapped", PLACES);
        onAllPlans("missing", PLACES);
        onAllPlans("detector", LOOPS, NUMBERS, ROOMS);
        onAllPlans("alarm", LOOPS, NUMBERS);
        onAllPlans("people", ROOMS, HOURS, HOURS, AMOUNTS);
        onAllPlans("inside", FLOORS, HOURS);
        onAllPlans("window", ROOMS, POINTS, POINTS, POINTS);
        onAllPlans("reaches", WINDOWS, POINTS, POINTS, POINTS, LENGTHS);
        onAllPlans("ladder", WINDOWS, POINTS, POINTS, POINTS);
        onAllPlans("look", DAYS, TERMS);
        onAllPlans("old", DAYS);
        onAllPlans("count", WHATS);
        CHECKS.end("RefusalGridTest");
    }

    private static List<PlanCall> callsOf(String lines) {
        List<PlanCall> calls = new ArrayList<>();
        lines.lines().forEach(line -> calls.add(PlanCall.of(line.split("->")[0])));
        return calls;
    }

    private static void onAllPlans(String name, int[]... choices) {
        onPlan("empty", EMPTY, name, choices);
        onPlan("a house", HOUSE, name, choices);
        switch (name) {
            case "room" -> onPlan("full", houseAnd(35, "room 5 0"), name, choices);
            case "door" -> onPlan("full", houseAnd(76, "door 0 1 20 30"), name, choices);
            case "detector" -> onPlan("full", houseAndDetectors(), name, choices);
            case "people" -> onPlan("full", houseAnd(58, "people 4 9 9 1"), name, choices);
            case "window" -> onPlan("full", houseAnd(28, "window 4 1 2 3"), name, choices);
            default -> { }
        }
    }

    private static List<PlanCall> houseAnd(int times, String line) {
        List<PlanCall> calls = new ArrayList<>(HOUSE);
        for (int i = 0; i < times; i++) {
            calls.add(PlanCall.of(line));
        }
        return calls;
    }

    /** The loops' ends are left out but for 1 99 and 9 1, which the house has. */
    private static List<PlanCall> houseAndDetectors() {
        List<PlanCall> calls = new ArrayList<>(HOUSE);
        for (int i = 0; i < 98; i++) {
            calls.add(new PlanCall("detector", 2 + i % 7, 2 + i, i % 5));
        }
        return calls;
    }

    private static void onPlan(String plan, List<PlanCall> before, String name, int[]... choices) {
        int all = 1;
        for (int[] choice : choices) {
            all *= choice.length;
        }
        for (int which = 0; which < all; which++) {
            int[] arguments = new int[choices.length];
            int rest = which;
            for (int i = 0; i < choices.length; i++) {
                arguments[i] = choices[i][rest % choices[i].length];
                rest /= choices[i].length;
            }
            isAsPlain(plan, before, new PlanCall(name, arguments));
        }
    }

    private static void isAsPlain(String plan, List<PlanCall> before, PlanCall call) {
        PlanRows rows = new PlanRows();
        PlainPlan plain = new PlainPlan();
        for (PlanCall first : before) {
            first.outcomeOn(rows);
            first.outcomeOn(plain);
        }
        CHECKS.same(plan + ", " + call.text(), call.outcomeOn(plain), call.outcomeOn(rows));
        for (PlanCall next : BEHIND) {
            CHECKS.same(plan + ", behind " + call.text() + ", " + next.text(), next.outcomeOn(plain), next.outcomeOn(rows));
        }
    }
}
