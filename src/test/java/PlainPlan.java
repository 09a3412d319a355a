import java.util.ArrayList;
import java.util.Collections;
import java.util.HashMap;
import java.util.HashSet;
import java.util.List;
import java.util.Map;
import java.util.Set;
import java.util.TreeSet;

/**
 * The document once more, written in another manner than the class: lists and maps, and the least
 * way by trying all ways. It is for small plans.
 */
public final class PlainPlan {
    private record Room(int floor, int kind) { }

    private record Door(int a, int b, int metres, int key) { }

    private record People(int room, int from, int to, int n) { }

    private record Point(int x, int y, int z) { }

    /** A way: its doors from its end, since it is told so. */
    private record Way(int metres, int stairs, int end, List<Integer> doorsFromEnd) {
        boolean isBefore(Way other) {
            if (metres != other.metres) {
                return metres < other.metres;
            }
            if (stairs != other.stairs) {
                return stairs < other.stairs;
            }
            if (end != other.end) {
                return end < other.end;
            }
            for (int i = 0; i < doorsFromEnd.size() && i < other.doorsFromEnd.size(); i++) {
                int order = doorsFromEnd.get(i).compareTo(other.doorsFromEnd.get(i));
                if (order != 0) {
                    return order < 0;
                }
            }
            return false;
        }
    }

    private final List<Room> rooms = new ArrayList<>();
    private final List<Integer> hazards = new ArrayList<>();
    private final List<Door> doors = new ArrayList<>();
    private final Set<Integer> keys = new TreeSet<>();
    private final Map<List<Integer>, Integer> detectors = new HashMap<>();
    private final List<People> rows = new ArrayList<>();
    private final List<Point> windows = new ArrayList<>();
    private Way latest = null;
    private int day = 0;
    private int term = 365;

    private static void unknownUnless(boolean known) {
        if (!known) {
            throw new IllegalArgumentException();
        }
    }

    private static void rangeUnless(boolean within) {
        if (!within) {
            throw new IndexOutOfBoundsException();
        }
    }

    private static void stateUnless(boolean fits) {
        if (!fits) {
            throw new IllegalStateException();
        }
    }

    private static void noRoomUnless(boolean isThere) {
        if (!isThere) {
            throw new UnsupportedOperationException();
        }
    }

    private static boolean in(int value, int least, int most) {
        return least <= value && value <= most;
    }

    private boolean isRoom(int room) {
        return in(room, 0, rooms.size() - 1);
    }

    private static boolean isPoint(int x, int y, int z) {
        return in(x, -200000, 200000) && in(y, -200000, 200000) && in(z, -200000, 200000);
    }

    public int room(int floor, int kind) {
        unknownUnless(in(kind, 0, 2));
        rangeUnless(in(floor, 0, 19));
        noRoomUnless(rooms.size() < 40);
        rooms.add(new Room(floor, kind));
        hazards.add(0);
        return rooms.size() - 1;
    }

    public int door(int a, int b, int metres, int key) {
        unknownUnless(isRoom(a) && isRoom(b));
        rangeUnless(in(metres, 1, 500) && in(key, 0, 30));
        stateUnless(a != b && in(rooms.get(a).floor - rooms.get(b).floor, -1, 1));
        noRoomUnless(doors.size() < 80);
        doors.add(new Door(a, b, metres, key));
        return doors.size() - 1;
    }

    public void key(int key, boolean on) {
        unknownUnless(in(key, 1, 30));
        stateUnless(on ? keys.add(key) : keys.remove(key));
    }

    public void hazard(int room, int bits) {
        unknownUnless(isRoom(room));
        rangeUnless(in(bits, 0, 255));
        hazards.set(room, bits);
    }

    public int way(int room, int kind, int avoid) {
        unknownUnless(isRoom(room) && in(kind, 0, 2));
        rangeUnless(in(avoid, 0, 255));
        latest = leastWay(room, kind, avoid);
        return latest == null ? -1 : latest.metres;
    }

    private Way leastWay(int room, int kind, int avoid) {
        List<Way> found = new ArrayList<>();
        tryAll(room, kind, avoid, new ArrayList<>(), new HashSet<>(Set.of(room)), found);
        Way least = null;
        for (Way way : found) {
            if (least == null || way.isBefore(least)) {
                least = way;
            }
        }
        return least;
    }

    private void tryAll(int here, int kind, int avoid, List<Integer> gone, Set<Integer> seen, List<Way> found) {
        if (rooms.get(here).kind == kind) {
            found.add(wayOver(gone, here));
        }
        for (int number = 0; number < doors.size(); number++) {
            Door door = doors.get(number);
            boolean isPassed = door.key == 0 || keys.contains(door.key);
            if (isPassed && (door.a == here || door.b == here)) {
                int next = door.a == here ? door.b : door.a;
                if ((hazards.get(next) & avoid) == 0 && seen.add(next)) {
                    gone.add(number);
                    tryAll(next, kind, avoid, gone, seen, found);
                    gone.remove(gone.size() - 1);
                    seen.remove(next);
                }
            }
        }
    }

    private Way wayOver(List<Integer> gone, int end) {
        int metres = 0;
        int stairs = 0;
        for (int number : gone) {
            Door door = doors.get(number);
            metres += door.metres;
            stairs += rooms.get(door.a).floor == rooms.get(door.b).floor ? 0 : 1;
        }
        List<Integer> fromEnd = new ArrayList<>(gone);
        Collections.reverse(fromEnd);
        return new Way(metres, stairs, end, fromEnd);
    }

    public int step(int i) {
        rangeUnless(i >= 0);
        int size = latest == null ? 0 : latest.doorsFromEnd.size();
        return i < size ? latest.doorsFromEnd.get(size - 1 - i) : -1;
    }

    public int told(int what) {
        unknownUnless(in(what, 0, 2));
        if (latest == null) {
            return what == 2 ? -1 : 0;
        }
        return what == 0 ? latest.doorsFromEnd.size() : what == 1 ? latest.stairs : latest.end;
    }

    public int hoses(int room, int length) {
        unknownUnless(isRoom(room));
        rangeUnless(in(length, 1, 100));
        Way way = leastWay(room, 1, 0);
        if (way == null) {
            return -1;
        }
        int taken = 0;
        while (taken * length < way.metres) {
            taken++;
        }
        return taken;
    }

    public int trapped(int i) {
        rangeUnless(i >= 0);
        List<Integer> all = new ArrayList<>();
        for (int room = 0; room < rooms.size(); room++) {
            if (leastWay(room, 2, 0) == null) {
                all.add(room);
            }
        }
        return i < all.size() ? all.get(i) : -1;
    }

    public int missing(int i) {
        rangeUnless(i >= 0);
        Set<Integer> all = new TreeSet<>();
        for (Door door : doors) {
            all.add(door.key);
        }
        all.remove(0);
        all.removeAll(keys);
        return i < all.size() ? new ArrayList<>(all).get(i) : -1;
    }

    public void detector(int loop, int number, int room) {
        unknownUnless(isRoom(room));
        rangeUnless(in(loop, 1, 9) && in(number, 1, 99));
        stateUnless(!detectors.containsKey(List.of(loop, number)));
        noRoomUnless(detectors.size() < 100);
        detectors.put(List.of(loop, number), room);
    }

    public int alarm(int loop, int number) {
        rangeUnless(in(loop, 1, 9) && in(number, 1, 99));
        return detectors.getOrDefault(List.of(loop, number), -1 - loop);
    }

    public int people(int room, int from, int to, int n) {
        unknownUnless(isRoom(room));
        rangeUnless(in(from, 0, 23) && in(to, 0, 23) && in(n, 0, 999));
        noRoomUnless(rows.size() < 60);
        rows.add(new People(room, from, to, n));
        return rows.size() - 1;
    }

    public int inside(int floor, int hour) {
        unknownUnless(in(floor, -1, 19));
        rangeUnless(in(hour, 0, 23));
        int sum = 0;
        for (People row : rows) {
            int since = Math.floorMod(hour - row.from, 24);
            int span = Math.floorMod(row.to - row.from, 24);
            if (since <= span && (floor == -1 || rooms.get(row.room).floor == floor)) {
                sum += row.n;
            }
        }
        return sum;
    }

    public int window(int room, int x, int y, int z) {
        unknownUnless(isRoom(room));
        rangeUnless(isPoint(x, y, z));
        noRoomUnless(windows.size() < 30);
        windows.add(new Point(x, y, z));
        return windows.size() - 1;
    }

    public boolean reaches(int window, int x, int y, int z, int length) {
        unknownUnless(in(window, 0, windows.size() - 1));
        rangeUnless(isPoint(x, y, z) && in(length, 1, 200000));
        Point point = windows.get(window);
        return point.z >= z && square(point, x, y, z) <= (long) length * length;
    }

    public int ladder(int window, int x, int y, int z) {
        unknownUnless(in(window, 0, windows.size() - 1));
        rangeUnless(isPoint(x, y, z));
        Point point = windows.get(window);
        long square = square(point, x, y, z);
        if (point.z < z || square > 200000L * 200000L) {
            return -1;
        }
        long length = Math.max(1, (long) Math.sqrt((double) square) - 2);
        while (length * length < square) {
            length++;
        }
        return (int) length;
    }

    private static long square(Point point, int x, int y, int z) {
        long dx = (long) point.x - x;
        long dy = (long) point.y - y;
        long dz = (long) point.z - z;
        return dx * dx + dy * dy + dz * dz;
    }

    public void look(int newDay, int newTerm) {
        rangeUnless(in(newDay, day, 99999) && in(newTerm, 1, 10000));
        day = newDay;
        term = newTerm;
    }

    public boolean old(int asked) {
        rangeUnless(in(asked, 0, 99999));
        return asked > day + term;
    }

    public int count(int what) {
        unknownUnless(in(what, 0, 4));
        return List.of(rooms.size(), doors.size(), detectors.size(), windows.size(), keys.size()).get(what);
    }
}
