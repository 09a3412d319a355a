import java.util.ArrayList;
import java.util.Collections;
import java.util.List;
import java.util.Random;

/**
 * Ways, hoses and trapped rooms in plans of up to all rooms and doors, where trying all ways, as
 * PlainPlan does, takes too long. The least ways are found here by joining ways over one room after
 * the other. Most doors are short, so that many ways are equally long. The seeds are fixed.
 */
public final class FullPlansTest {
    private static final Checks CHECKS = new Checks();
    private static final int MOST_ROOMS = 40;
    private static final int MOST_DOORS = 80;
    private static final int LAST_CALL = 512;
    private static final long NO_WAY = Long.MAX_VALUE / 4;
    /** Far more stairs than any way has. */
    private static final long METRE = 1000;

    private static int longestWay = 0;
    private static int largestPlan = 0;

    private record Door(int a, int b, int metres, int key) {
        int behind(int room) {
            return room == a ? b : room == b ? a : -1;
        }
    }

    private final Random random;
    private final String name;
    private final PlanRows plan = new PlanRows();
    private final int roomCount;
    private final int[] floors = new int[MOST_ROOMS];
    private final int[] kinds = new int[MOST_ROOMS];
    private final int[] hazards = new int[MOST_ROOMS];
    private final List<Door> doors = new ArrayList<>();
    private final boolean[] atHand = new boolean[31];
    private int calls = 0;

    public static void main(String[] args) {
        for (int seed = 1; seed <= 600; seed++) {
            new FullPlansTest(seed).run();
        }
        CHECKS.same("a way of 30 doors and more was met", true, longestWay >= 30);
        CHECKS.same("a plan of all rooms and doors was met", MOST_ROOMS + MOST_DOORS, largestPlan);
        CHECKS.end("FullPlansTest");
    }

    private FullPlansTest(int seed) {
        random = new Random(seed);
        name = "seed " + seed;
        roomCount = seed % 3 == 0 ? MOST_ROOMS : 2 + random.nextInt(MOST_ROOMS - 1);
        boolean isRow = seed % 2 == 0;
        makeRooms(isRow ? 40 : 5, 1 + random.nextInt(3));
        makeDoors(isRow, 1 + random.nextInt(seed % 5 == 0 ? 500 : 3));
        makeKeysAndHazards();
        largestPlan = Math.max(largestPlan, roomCount + doors.size());
    }

    /** One room of so many is no inner one. */
    private void makeRooms(int oneOf, int floorCount) {
        for (int room = 0; room < roomCount; room++) {
            floors[room] = random.nextInt(floorCount);
            kinds[room] = random.nextInt(oneOf) == 0 ? 1 + random.nextInt(2) : 0;
            plan.room(floors[room], kinds[room]);
            calls++;
        }
    }

    /** A row goes through all rooms in any order as far as their floors let it; the other doors stand anywhere. */
    private void makeDoors(boolean isRow, int longestDoor) {
        List<Integer> order = new ArrayList<>();
        for (int room = 0; room < roomCount; room++) {
            order.add(room);
        }
        Collections.shuffle(order, random);
        for (int i = 0; isRow && i + 1 < roomCount; i++) {
            makeDoor(order.get(i), order.get(i + 1), longestDoor, 0);
        }
        int others = isRow ? random.nextInt(12) : 500;
        for (int i = 0; i < others && doors.size() < MOST_DOORS; i++) {
            int key = random.nextInt(3) == 0 ? random.nextInt(31) : 0;
            makeDoor(random.nextInt(roomCount), random.nextInt(roomCount), longestDoor, key);
        }
    }

    private void makeDoor(int a, int b, int longestDoor, int key) {
        if (a != b && Math.abs(floors[a] - floors[b]) <= 1) {
            Door door = new Door(a, b, 1 + random.nextInt(longestDoor), key);
            CHECKS.same(name + ", a door", doors.size(), plan.door(a, b, door.metres, key));
            doors.add(door);
            calls++;
        }
    }

    private void makeKeysAndHazards() {
        for (int key = 1; key <= 30; key++) {
            if (random.nextBoolean()) {
                plan.key(key, true);
                atHand[key] = true;
                calls++;
            }
        }
        for (int room = 0; room < roomCount; room++) {
            if (random.nextInt(4) == 0) {
                hazards[room] = 1 << random.nextInt(8);
                plan.hazard(room, hazards[room]);
                calls++;
            }
        }
    }

    private void run() {
        trappedAreDue();
        int[] avoids = {0, 1 << random.nextInt(8), random.nextInt(256)};
        List<long[][]> costs = new ArrayList<>();
        for (int avoid : avoids) {
            costs.add(costsOfAllWays(avoid));
        }
        while (calls + 7 + MOST_ROOMS < LAST_CALL) {
            int set = random.nextInt(avoids.length);
            wayIsDue(random.nextInt(roomCount), random.nextInt(3), avoids[set], costs.get(set));
            hosesAreDue(random.nextInt(roomCount), 1 + random.nextInt(100), costs.get(0));
        }
    }

    private boolean isPassed(Door door) {
        return door.key == 0 || atHand[door.key];
    }

    private long costOf(Door door) {
        return door.metres * METRE + (floors[door.a] == floors[door.b] ? 0 : 1);
    }

    private long[][] costsOfAllWays(int avoid) {
        long[][] costs = new long[roomCount][roomCount];
        for (int from = 0; from < roomCount; from++) {
            for (int to = 0; to < roomCount; to++) {
                costs[from][to] = from == to ? 0 : NO_WAY;
            }
        }
        for (Door door : doors) {
            if (isPassed(door)) {
                goInto(costs, door.a, door.b, costOf(door), avoid);
                goInto(costs, door.b, door.a, costOf(door), avoid);
            }
        }
        for (int over = 0; over < roomCount; over++) {
            for (int from = 0; from < roomCount; from++) {
                for (int to = 0; to < roomCount; to++) {
                    costs[from][to] = Math.min(costs[from][to], costs[from][over] + costs[over][to]);
                }
            }
        }
        return costs;
    }

    private void goInto(long[][] costs, int from, int to, long cost, int avoid) {
        if ((hazards[to] & avoid) == 0) {
            costs[from][to] = Math.min(costs[from][to], cost);
        }
    }

    private int nearest(int start, int kind, long[][] costs) {
        int nearest = -1;
        for (int room = roomCount - 1; room >= 0; room--) {
            boolean isReached = kinds[room] == kind && costs[start][room] < NO_WAY;
            if (isReached && (nearest < 0 || costs[start][room] <= costs[start][nearest])) {
                nearest = room;
            }
        }
        return nearest;
    }

    private void wayIsDue(int start, int kind, int avoid, long[][] costs) {
        int end = nearest(start, kind, costs);
        String what = name + ", way(" + start + ", " + kind + ", " + avoid + ")";
        List<Integer> steps = end < 0 ? new ArrayList<>() : stepsTo(start, end, costs);
        longestWay = Math.max(longestWay, steps.size());
        CHECKS.same(what, end < 0 ? -1 : (int) (costs[start][end] / METRE), plan.way(start, kind, avoid));
        CHECKS.same(what + ", doors", steps.size(), plan.told(0));
        CHECKS.same(what + ", stairs", end < 0 ? 0 : (int) (costs[start][end] % METRE), plan.told(1));
        CHECKS.same(what + ", end", end, plan.told(2));
        for (int i = 0; i <= steps.size(); i++) {
            CHECKS.same(what + ", step " + i, i < steps.size() ? steps.get(i) : -1, plan.step(i));
        }
        calls += 5 + steps.size();
    }

    private List<Integer> stepsTo(int start, int end, long[][] costs) {
        List<Integer> steps = new ArrayList<>();
        int room = end;
        while (room != start) {
            int lowest = lowestDoorInto(start, room, costs);
            steps.add(0, lowest);
            room = doors.get(lowest).behind(room);
        }
        return steps;
    }

    private int lowestDoorInto(int start, int room, long[][] costs) {
        int lowest = doors.size();
        for (int number = doors.size() - 1; number >= 0; number--) {
            Door door = doors.get(number);
            int before = door.behind(room);
            if (before >= 0 && isPassed(door) && costs[start][before] + costOf(door) == costs[start][room]) {
                lowest = number;
            }
        }
        return lowest;
    }

    private void hosesAreDue(int start, int length, long[][] costs) {
        int end = nearest(start, 1, costs);
        int metres = end < 0 ? -1 : (int) (costs[start][end] / METRE);
        int due = end < 0 ? -1 : metres / length + (metres % length == 0 ? 0 : 1);
        CHECKS.same(name + ", hoses(" + start + ", " + length + ")", due, plan.hoses(start, length));
        calls++;
    }

    private void trappedAreDue() {
        long[][] costs = costsOfAllWays(0);
        int i = 0;
        for (int room = 0; room < roomCount; room++) {
            if (nearest(room, 2, costs) < 0) {
                CHECKS.same(name + ", trapped(" + i + ")", room, plan.trapped(i));
                i++;
            }
        }
        CHECKS.same(name + ", trapped(" + i + ")", -1, plan.trapped(i));
        calls += i + 1;
    }
}
