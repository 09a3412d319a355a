import java.util.Arrays;

/**
 * Building plans: rooms on floors, doors with keys, ways out and to risers, detectors, people,
 * hazards, windows and ladders, and the day of the latest look at the plan.
 */
public final class PlanRows {
    private static final int NONE = -1;

    private static final int MOST_ROOMS = 40;
    private static final int MOST_DOORS = 80;
    private static final int MOST_DETECTORS = 100;
    private static final int MOST_PEOPLE_ROWS = 60;
    private static final int MOST_WINDOWS = 30;

    private static final int HIGHEST_FLOOR = 19;
    private static final int ALL_FLOORS = -1;
    private static final int RISER = 1;
    private static final int OUTSIDE = 2;
    private static final int NO_HAZARDS = 0;
    private static final int ALL_HAZARDS = 255;
    private static final int MOST_METRES = 500;
    private static final int NO_KEY = 0;
    private static final int HIGHEST_KEY = 30;
    private static final int LONGEST_HOSE = 100;
    private static final int HIGHEST_LOOP = 9;
    private static final int HIGHEST_NUMBER = 99;
    private static final int LAST_HOUR = 23;
    private static final int MOST_PEOPLE = 999;
    private static final int FARTHEST = 200_000;
    private static final int LONGEST_LADDER = 200_000;
    private static final int LAST_DAY = 99_999;
    private static final int LONGEST_TERM = 10_000;
    private static final int FIRST_TERM = 365;

    /**
     * Metres and stairs are added up in one number, the cost, in which a stair counts 1. A least
     * way has fewer doors than there are rooms, so its stairs never add up to one metre.
     */
    private static final int COST_OF_METRE = 64;
    /** More than any way costs. */
    private static final int NOT_REACHED = 1_000_000_000;

    private final Rooms rooms;
    private final Doors doors;
    private final KeyRing keyRing;
    private final Search search;
    private final Route latestWay;
    private final Detectors detectors;
    private final Crowd crowd;
    private final Windows windows;
    private int lookDay;
    private int lookTerm;

    public PlanRows() {
        rooms = new Rooms();
        doors = new Doors();
        keyRing = new KeyRing();
        search = new Search(rooms, doors, keyRing);
        latestWay = new Route();
        detectors = new Detectors();
        crowd = new Crowd();
        windows = new Windows();
        lookDay = 0;
        lookTerm = FIRST_TERM;
    }

    public int room(int floor, int kind) throws IllegalArgumentException, IndexOutOfBoundsException, UnsupportedOperationException {
        wantKind(kind);
        wantWithin(floor, 0, HIGHEST_FLOOR);
        return wantAdded(rooms.add(floor, kind));
    }

    public int door(int a, int b, int metres, int key) throws IllegalArgumentException, IndexOutOfBoundsException, IllegalStateException, UnsupportedOperationException {
        wantRoom(a);
        wantRoom(b);
        wantWithin(metres, 1, MOST_METRES);
        wantWithin(key, NO_KEY, HIGHEST_KEY);
        int floorsBetween = Math.abs(rooms.floorOf(a) - rooms.floorOf(b));
        if (a == b || floorsBetween > 1) {
            throw new IllegalStateException("a door joins two rooms of the same or neighbouring floors");
        }
        int cost = metres * COST_OF_METRE + floorsBetween;
        return wantAdded(doors.add(a, b, cost, key));
    }

    public void key(int key, boolean on) throws IllegalArgumentException, IllegalStateException {
        if (!keyRing.has(key)) {
            throw new IllegalArgumentException("no such key");
        }
        if (keyRing.isAtHand(key) == on) {
            throw new IllegalStateException("the key is so already");
        }
        keyRing.put(key, on);
    }

    public void hazard(int room, int bits) throws IllegalArgumentException, IndexOutOfBoundsException {
        wantRoom(room);
        wantWithin(bits, NO_HAZARDS, ALL_HAZARDS);
        rooms.setHazards(room, bits);
    }

    public int way(int room, int kind, int avoid) throws IllegalArgumentException, IndexOutOfBoundsException {
        wantRoom(room);
        wantKind(kind);
        wantWithin(avoid, NO_HAZARDS, ALL_HAZARDS);
        search.spreadFromRoom(room, avoid);
        int end = search.nearestOf(kind);
        search.tellWayTo(end, latestWay);
        return search.metresTo(end);
    }

    public int step(int i) throws IndexOutOfBoundsException {
        wantNotBelowZero(i);
        return latestWay.doorAt(i);
    }

    public int told(int what) throws IllegalArgumentException {
        switch (what) {
            case 0:
                return latestWay.length;
            case 1:
                return latestWay.stairs;
            case 2:
                return latestWay.end;
            default:
                throw new IllegalArgumentException("no such thing is told of a way");
        }
    }

    public int hoses(int room, int length) throws IllegalArgumentException, IndexOutOfBoundsException {
        wantRoom(room);
        wantWithin(length, 1, LONGEST_HOSE);
        search.spreadFromRoom(room, NO_HAZARDS);
        int metres = search.metresTo(search.nearestOf(RISER));
        return metres < 0 ? NONE : (metres + length - 1) / length;
    }

    public int trapped(int i) throws IndexOutOfBoundsException {
        wantNotBelowZero(i);
        // Doors are passed both ways: who cannot be reached from outside cannot get out.
        search.spreadFromKind(OUTSIDE);
        return search.unreachedAt(i);
    }

    public int missing(int i) throws IndexOutOfBoundsException {
        wantNotBelowZero(i);
        int left = i;
        for (int key = 1; key <= HIGHEST_KEY; key++) {
            if (!keyRing.isAtHand(key) && doors.anyHasKey(key)) {
                if (left == 0) {
                    return key;
                }
                left--;
            }
        }
        return NONE;
    }

    public void detector(int loop, int number, int room) throws IllegalArgumentException, IndexOutOfBoundsException, IllegalStateException, UnsupportedOperationException {
        wantRoom(room);
        wantWithin(loop, 1, HIGHEST_LOOP);
        wantWithin(number, 1, HIGHEST_NUMBER);
        if (detectors.roomOf(loop, number) != NONE) {
            throw new IllegalStateException("the detector is told already");
        }
        wantAdded(detectors.add(loop, number, room));
    }

    public int alarm(int loop, int number) throws IndexOutOfBoundsException {
        wantWithin(loop, 1, HIGHEST_LOOP);
        wantWithin(number, 1, HIGHEST_NUMBER);
        int room = detectors.roomOf(loop, number);
        return room == NONE ? -1 - loop : room;
    }

    public int people(int room, int from, int to, int n) throws IllegalArgumentException, IndexOutOfBoundsException, UnsupportedOperationException {
        wantRoom(room);
        wantWithin(from, 0, LAST_HOUR);
        wantWithin(to, 0, LAST_HOUR);
        wantWithin(n, 0, MOST_PEOPLE);
        return wantAdded(crowd.add(rooms.floorOf(room), from, to, n));
    }

    public int inside(int floor, int hour) throws IllegalArgumentException, IndexOutOfBoundsException {
        if (floor < ALL_FLOORS || floor > HIGHEST_FLOOR) {
            throw new IllegalArgumentException("no such floor");
        }
        wantWithin(hour, 0, LAST_HOUR);
        return crowd.sum(floor, hour);
    }

    public int window(int room, int x, int y, int z) throws IllegalArgumentException, IndexOutOfBoundsException, UnsupportedOperationException {
        wantRoom(room);
        wantPoint(x, y, z);
        // No promise asks for a window's room again, so it is not kept.
        return wantAdded(windows.add(x, y, z));
    }

    public boolean reaches(int window, int x, int y, int z, int length) throws IllegalArgumentException, IndexOutOfBoundsException {
        wantWindow(window);
        wantPoint(x, y, z);
        wantWithin(length, 1, LONGEST_LADDER);
        return windows.isReached(window, x, y, z, length);
    }

    public int ladder(int window, int x, int y, int z) throws IllegalArgumentException, IndexOutOfBoundsException {
        wantWindow(window);
        wantPoint(x, y, z);
        return windows.leastLength(window, x, y, z);
    }

    public void look(int day, int term) throws IndexOutOfBoundsException {
        wantWithin(day, lookDay, LAST_DAY);
        wantWithin(term, 1, LONGEST_TERM);
        lookDay = day;
        lookTerm = term;
    }

    public boolean old(int day) throws IndexOutOfBoundsException {
        wantWithin(day, 0, LAST_DAY);
        return day - lookDay > lookTerm;
    }

    public int count(int what) throws IllegalArgumentException {
        switch (what) {
            case 0:
                return rooms.size;
            case 1:
                return doors.size;
            case 2:
                return detectors.size;
            case 3:
                return windows.size;
            case 4:
                return keyRing.size;
            default:
                throw new IllegalArgumentException("no such thing is counted");
        }
    }

    private void wantRoom(int number) {
        if (!rooms.has(number)) {
            throw new IllegalArgumentException("no such room");
        }
    }

    private void wantWindow(int number) {
        if (!windows.has(number)) {
            throw new IllegalArgumentException("no such window");
        }
    }

    private static void wantKind(int kind) {
        if (kind < 0 || kind > OUTSIDE) {
            throw new IllegalArgumentException("no such kind of rooms");
        }
    }

    private static void wantPoint(int x, int y, int z) {
        wantWithin(x, -FARTHEST, FARTHEST);
        wantWithin(y, -FARTHEST, FARTHEST);
        wantWithin(z, -FARTHEST, FARTHEST);
    }

    private static void wantWithin(int value, int least, int most) {
        if (value < least || value > most) {
            throw new IndexOutOfBoundsException("a number is outside its range");
        }
    }

    private static void wantNotBelowZero(int i) {
        if (i < 0) {
            throw new IndexOutOfBoundsException("a place is below 0");
        }
    }

    private static int wantAdded(int number) {
        if (number == NONE) {
            throw new UnsupportedOperationException("there is no room for one more");
        }
        return number;
    }

    /** The rooms, by number. */
    private static final class Rooms {
        private final int[] floors = new int[MOST_ROOMS];
        private final int[] kinds = new int[MOST_ROOMS];
        private final int[] hazards = new int[MOST_ROOMS];
        private int size;

        /** The new room's number, NONE when there is no room for it. */
        int add(int floor, int kind) {
            if (size >= MOST_ROOMS) {
                return NONE;
            }
            floors[size] = floor;
            kinds[size] = kind;
            size++;
            return size - 1;
        }

        boolean has(int number) {
            return number >= 0 && number < size;
        }

        int floorOf(int number) {
            return has(number) ? floors[number] : NONE;
        }

        boolean isOfKind(int number, int kind) {
            return has(number) && kinds[number] == kind;
        }

        boolean hasHazardOf(int number, int bits) {
            return has(number) && (hazards[number] & bits) != 0;
        }

        void setHazards(int number, int bits) {
            if (has(number)) {
                hazards[number] = bits;
            }
        }
    }

    /** The doors, by number. */
    private static final class Doors {
        private final int[] firstRooms = new int[MOST_DOORS];
        private final int[] secondRooms = new int[MOST_DOORS];
        private final int[] costs = new int[MOST_DOORS];
        private final int[] keys = new int[MOST_DOORS];
        private int size;

        /** The new door's number, NONE when there is no room for it. */
        int add(int a, int b, int cost, int key) {
            if (size >= MOST_DOORS) {
                return NONE;
            }
            firstRooms[size] = a;
            secondRooms[size] = b;
            costs[size] = cost;
            keys[size] = key;
            size++;
            return size - 1;
        }

        boolean has(int number) {
            return number >= 0 && number < size;
        }

        int firstRoomOf(int number) {
            return has(number) ? firstRooms[number] : NONE;
        }

        int secondRoomOf(int number) {
            return has(number) ? secondRooms[number] : NONE;
        }

        int costOf(int number) {
            return has(number) ? costs[number] : 0;
        }

        int keyOf(int number) {
            return has(number) ? keys[number] : NO_KEY;
        }

        /** The room behind a door for one who stands in a room; NONE when the door is not there. */
        int roomBehind(int number, int room) {
            if (firstRoomOf(number) == room) {
                return secondRoomOf(number);
            }
            return secondRoomOf(number) == room ? firstRoomOf(number) : NONE;
        }

        boolean anyHasKey(int key) {
            for (int number = 0; number < size; number++) {
                if (keys[number] == key) {
                    return true;
                }
            }
            return false;
        }
    }

    /** Which keys are at hand. */
    private static final class KeyRing {
        private final boolean[] atHand = new boolean[HIGHEST_KEY + 1];
        private int size;

        boolean has(int key) {
            return key > NO_KEY && key <= HIGHEST_KEY;
        }

        boolean isAtHand(int key) {
            return has(key) && atHand[key];
        }

        void put(int key, boolean on) {
            if (has(key) && atHand[key] != on) {
                atHand[key] = on;
                size += on ? 1 : -1;
            }
        }
    }

    /** The latest way; it stays as it was told when the plan changes afterwards. */
    private static final class Route {
        private final int[] doorsFromEnd = new int[MOST_ROOMS];
        private int length;
        private int stairs;
        private int end = NONE;

        void restart(int endRoom, int stairCount) {
            length = 0;
            stairs = stairCount;
            end = endRoom;
        }

        void addBefore(int door) {
            if (length < MOST_ROOMS) {
                doorsFromEnd[length] = door;
                length++;
            }
        }

        int doorAt(int i) {
            return i >= 0 && i < length ? doorsFromEnd[length - 1 - i] : NONE;
        }
    }

    /** What the rooms cost from where a search began. */
    private static final class Search {
        private final Rooms rooms;
        private final Doors doors;
        private final KeyRing keyRing;
        private final int[] costs = new int[MOST_ROOMS];

        Search(Rooms rooms, Doors doors, KeyRing keyRing) {
            this.rooms = rooms;
            this.doors = doors;
            this.keyRing = keyRing;
        }

        void spreadFromRoom(int start, int avoid) {
            Arrays.fill(costs, NOT_REACHED);
            if (rooms.has(start)) {
                costs[start] = 0;
            }
            spread(avoid);
        }

        void spreadFromKind(int kind) {
            for (int room = 0; room < MOST_ROOMS; room++) {
                costs[room] = rooms.isOfKind(room, kind) ? 0 : NOT_REACHED;
            }
            spread(NO_HAZARDS);
        }

        /** Each pass settles at least one room more, so there are no more passes than rooms. */
        private void spread(int avoid) {
            boolean changed = true;
            for (int pass = 0; changed && pass < MOST_ROOMS; pass++) {
                changed = spreadOverAllDoors(avoid);
            }
        }

        private boolean spreadOverAllDoors(int avoid) {
            boolean changed = false;
            for (int door = 0; door < doors.size; door++) {
                if (isPassed(door)) {
                    int a = doors.firstRoomOf(door);
                    int b = doors.secondRoomOf(door);
                    int cost = doors.costOf(door);
                    boolean changedB = lowerCost(a, b, cost, avoid);
                    boolean changedA = lowerCost(b, a, cost, avoid);
                    changed = changed || changedA || changedB;
                }
            }
            return changed;
        }

        /** Goes from a room into another one, and answers whether that one is reached for less now. */
        private boolean lowerCost(int from, int into, int costOfDoor, int avoid) {
            if (!isReached(from) || !rooms.has(into) || rooms.hasHazardOf(into, avoid)) {
                return false;
            }
            int cost = costs[from] + costOfDoor;
            if (cost >= costs[into]) {
                return false;
            }
            costs[into] = cost;
            return true;
        }

        private boolean isPassed(int door) {
            int key = doors.keyOf(door);
            return key == NO_KEY || keyRing.isAtHand(key);
        }

        private boolean isReached(int room) {
            return rooms.has(room) && costs[room] != NOT_REACHED;
        }

        /** The room of a kind that costs least, of several the lowest; NONE when none is reached. */
        int nearestOf(int kind) {
            int nearest = NONE;
            int least = NOT_REACHED;
            for (int room = 0; room < rooms.size; room++) {
                if (rooms.isOfKind(room, kind) && costs[room] < least) {
                    nearest = room;
                    least = costs[room];
                }
            }
            return nearest;
        }

        int metresTo(int room) {
            return isReached(room) ? costs[room] / COST_OF_METRE : NONE;
        }

        private int stairsTo(int room) {
            return isReached(room) ? costs[room] % COST_OF_METRE : 0;
        }

        void tellWayTo(int end, Route route) {
            route.restart(end, stairsTo(end));
            int room = end;
            for (int gone = 0; gone < MOST_ROOMS && isReached(room); gone++) {
                int door = lowestDoorInto(room);
                if (door == NONE) {
                    return;
                }
                route.addBefore(door);
                room = doors.roomBehind(door, room);
            }
        }

        /** The lowest door over which a least way comes into a room; NONE where the search began. */
        private int lowestDoorInto(int room) {
            if (!isReached(room)) {
                return NONE;
            }
            for (int door = 0; door < doors.size; door++) {
                int before = doors.roomBehind(door, room);
                if (isPassed(door) && isReached(before) && costs[before] + doors.costOf(door) == costs[room]) {
                    return door;
                }
            }
            return NONE;
        }

        /** The i-th room that the search did not come to; NONE when there are not so many. */
        int unreachedAt(int i) {
            int left = i;
            for (int room = 0; room < rooms.size; room++) {
                if (!isReached(room)) {
                    if (left == 0) {
                        return room;
                    }
                    left--;
                }
            }
            return NONE;
        }
    }

    /** The detectors, by loop and number. */
    private static final class Detectors {
        private final int[] loops = new int[MOST_DETECTORS];
        private final int[] numbers = new int[MOST_DETECTORS];
        private final int[] roomsOf = new int[MOST_DETECTORS];
        private int size;

        /** How many were told before, NONE when there is no room for one more. */
        int add(int loop, int number, int room) {
            if (size >= MOST_DETECTORS) {
                return NONE;
            }
            loops[size] = loop;
            numbers[size] = number;
            roomsOf[size] = room;
            size++;
            return size - 1;
        }

        int roomOf(int loop, int number) {
            for (int i = 0; i < size; i++) {
                if (loops[i] == loop && numbers[i] == number) {
                    return roomsOf[i];
                }
            }
            return NONE;
        }
    }

    /** The rows of people; of their rooms only the floors are asked for. */
    private static final class Crowd {
        private final int[] floors = new int[MOST_PEOPLE_ROWS];
        private final int[] froms = new int[MOST_PEOPLE_ROWS];
        private final int[] tos = new int[MOST_PEOPLE_ROWS];
        private final int[] amounts = new int[MOST_PEOPLE_ROWS];
        private int size;

        /** The new row's number, NONE when there is no room for it. */
        int add(int floor, int from, int to, int amount) {
            if (size >= MOST_PEOPLE_ROWS) {
                return NONE;
            }
            floors[size] = floor;
            froms[size] = from;
            tos[size] = to;
            amounts[size] = amount;
            size++;
            return size - 1;
        }

        int sum(int floor, int hour) {
            int sum = 0;
            for (int row = 0; row < size; row++) {
                boolean isOnFloor = floor == ALL_FLOORS || floors[row] == floor;
                if (isOnFloor && isBetween(hour, froms[row], tos[row])) {
                    sum += amounts[row];
                }
            }
            return sum;
        }

        private static boolean isBetween(int hour, int from, int to) {
            boolean throughMidnight = to < from;
            return throughMidnight ? hour >= from || hour <= to : hour >= from && hour <= to;
        }
    }

    /** The windows' points, by number. */
    private static final class Windows {
        /** No length of a ladder has a higher bit. */
        private static final int HIGHEST_BIT_OF_LENGTH = 1 << 17;

        private final int[] xs = new int[MOST_WINDOWS];
        private final int[] ys = new int[MOST_WINDOWS];
        private final int[] zs = new int[MOST_WINDOWS];
        private int size;

        /** The new window's number, NONE when there is no room for it. */
        int add(int x, int y, int z) {
            if (size >= MOST_WINDOWS) {
                return NONE;
            }
            xs[size] = x;
            ys[size] = y;
            zs[size] = z;
            size++;
            return size - 1;
        }

        boolean has(int number) {
            return number >= 0 && number < size;
        }

        boolean isReached(int number, int x, int y, int z, int length) {
            if (!has(number) || zs[number] < z) {
                return false;
            }
            // The squares are too large for an int.
            long dx = xs[number] - x;
            long dy = ys[number] - y;
            long dz = zs[number] - z;
            return dx * dx + dy * dy + dz * dz <= (long) length * length;
        }

        int leastLength(int number, int x, int y, int z) {
            if (!isReached(number, x, y, z, LONGEST_LADDER)) {
                return NONE;
            }
            int tooShort = 0;
            for (int bit = HIGHEST_BIT_OF_LENGTH; bit > 0; bit >>= 1) {
                if (!isReached(number, x, y, z, tooShort + bit)) {
                    tooShort += bit;
                }
            }
            return tooShort + 1;
        }
    }
}
