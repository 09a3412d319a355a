/** Promises 1 to 5, 11 and 21: the plan's rooms, doors, keys and hazards, and how many there are. */
public final class RoomsAndDoorsTest {
    private static final Checks CHECKS = new Checks();

    public static void main(String[] args) {
        newObject();
        roomNumbersAndRefusals();
        fortyRooms();
        doorNumbersAndRefusals();
        doorRefusalsInOrder();
        eightyDoors();
        keysAtHand();
        hazards();
        missingKeys();
        counts();
        CHECKS.end("RoomsAndDoorsTest");
    }

    private static void newObject() {
        PlanRows x = new PlanRows();
        for (int what = 0; what <= 4; what++) {
            int asked = what;
            CHECKS.answers("1: count " + what, 0, () -> x.count(asked));
        }
        CHECKS.answers("1: no way has doors", 0, () -> x.told(0));
        CHECKS.answers("1: no way has stairs", 0, () -> x.told(1));
        CHECKS.answers("1: no way ends", -1, () -> x.told(2));
        CHECKS.answers("1: no step", -1, () -> x.step(0));
        CHECKS.answers("1: nobody trapped", -1, () -> x.trapped(0));
        CHECKS.answers("1: no key missing", -1, () -> x.missing(0));
        CHECKS.answers("1: nobody inside", 0, () -> x.inside(-1, 12));
        CHECKS.answers("1: no detector", -2, () -> x.alarm(1, 1));
        CHECKS.answers("1: term 365 since day 0", false, () -> x.old(365));
        CHECKS.answers("1: one day more", true, () -> x.old(366));
        CHECKS.unknown("1: no room 0", () -> x.hazard(0, 0));
        CHECKS.unknown("1: no window 0", () -> x.ladder(0, 0, 0, 0));
    }

    private static void roomNumbersAndRefusals() {
        PlanRows x = new PlanRows();
        CHECKS.unknown("2: kind -1", () -> x.room(0, -1));
        CHECKS.unknown("2: kind 3", () -> x.room(0, 3));
        CHECKS.unknown("2: the kind comes before the floor", () -> x.room(20, 3));
        CHECKS.range("2: floor -1", () -> x.room(-1, 0));
        CHECKS.range("2: floor 20", () -> x.room(20, 0));
        CHECKS.answers("2: refused rooms are not counted", 0, () -> x.count(0));
        CHECKS.answers("2: first", 0, () -> x.room(0, 0));
        CHECKS.answers("2: second", 1, () -> x.room(19, 1));
        CHECKS.answers("2: third", 2, () -> x.room(0, 2));
    }

    private static void fortyRooms() {
        PlanRows x = new PlanRows();
        for (int i = 0; i < 40; i++) {
            CHECKS.same("2: room " + i, i, x.room(i % 20, i % 3));
        }
        CHECKS.noRoom("2: one more", () -> x.room(0, 0));
        CHECKS.unknown("2: the kind comes before no room", () -> x.room(0, 3));
        CHECKS.range("2: the floor comes before no room", () -> x.room(20, 0));
        CHECKS.answers("2: still 40", 40, () -> x.count(0));
        CHECKS.done("2: the last room is there", () -> x.hazard(39, 1));
        CHECKS.unknown("2: none behind it", () -> x.hazard(40, 1));
    }

    private static PlanRows fourRooms() {
        PlanRows x = new PlanRows();
        x.room(0, 0);
        x.room(0, 2);
        x.room(1, 0);
        x.room(2, 0);
        return x;
    }

    private static void doorNumbersAndRefusals() {
        PlanRows x = fourRooms();
        CHECKS.unknown("3: room -1", () -> x.door(-1, 0, 1, 0));
        CHECKS.unknown("3: room 4", () -> x.door(4, 0, 1, 0));
        CHECKS.unknown("3: second room -1", () -> x.door(0, -1, 1, 0));
        CHECKS.unknown("3: second room 4", () -> x.door(0, 4, 1, 0));
        CHECKS.range("3: 0 metres", () -> x.door(0, 1, 0, 0));
        CHECKS.range("3: 501 metres", () -> x.door(0, 1, 501, 0));
        CHECKS.range("3: key -1", () -> x.door(0, 1, 1, -1));
        CHECKS.range("3: key 31", () -> x.door(0, 1, 1, 31));
        CHECKS.state("3: the rooms are one", () -> x.door(1, 1, 1, 0));
        CHECKS.state("3: two floors up", () -> x.door(0, 3, 1, 0));
        CHECKS.state("3: two floors down", () -> x.door(3, 0, 1, 0));
        CHECKS.answers("3: refused doors are not counted", 0, () -> x.count(1));
        CHECKS.answers("3: the same floor", 0, () -> x.door(0, 1, 500, 30));
        CHECKS.answers("3: up", 1, () -> x.door(0, 2, 1, 0));
        CHECKS.answers("3: down", 2, () -> x.door(3, 2, 1, 1));
        CHECKS.answers("3: the same rooms again", 3, () -> x.door(1, 0, 1, 0));
    }

    private static void doorRefusalsInOrder() {
        PlanRows x = fourRooms();
        CHECKS.unknown("3: rooms before metres", () -> x.door(0, 4, 0, 0));
        CHECKS.unknown("3: rooms before key", () -> x.door(4, 0, 1, 31));
        CHECKS.unknown("3: rooms before their being one", () -> x.door(4, 4, 1, 0));
        CHECKS.range("3: metres before the rooms being one", () -> x.door(1, 1, 0, 0));
        CHECKS.range("3: key before the floors", () -> x.door(0, 3, 1, 31));
    }

    private static void eightyDoors() {
        PlanRows x = fourRooms();
        for (int i = 0; i < 80; i++) {
            CHECKS.same("3: door " + i, i, x.door(0, 1, 500 - i, 0));
        }
        CHECKS.noRoom("3: one more", () -> x.door(0, 1, 1, 0));
        CHECKS.unknown("3: rooms before no room", () -> x.door(0, 4, 1, 0));
        CHECKS.range("3: metres before no room", () -> x.door(0, 1, 501, 0));
        CHECKS.state("3: one room before no room", () -> x.door(0, 0, 1, 0));
        CHECKS.answers("3: still 80", 80, () -> x.count(1));
        CHECKS.answers("3: the last door counts, no other", 421, () -> x.way(0, 2, 0));
        CHECKS.answers("3: it is door 79", 79, () -> x.step(0));
        CHECKS.answers("11: no key among 80 doors", -1, () -> x.missing(0));
        CHECKS.answers("10: who is trapped behind 80 doors", 2, () -> x.trapped(0));
    }

    private static void keysAtHand() {
        PlanRows x = fourRooms();
        x.door(0, 1, 9, 30);
        CHECKS.unknown("4: key 0", () -> x.key(0, true));
        CHECKS.unknown("4: key -1", () -> x.key(-1, false));
        CHECKS.unknown("4: key 31", () -> x.key(31, true));
        CHECKS.state("4: not at hand at first", () -> x.key(30, false));
        CHECKS.answers("4: locked", -1, () -> x.way(0, 2, 0));
        CHECKS.done("4: at hand", () -> x.key(30, true));
        CHECKS.state("4: at hand already", () -> x.key(30, true));
        CHECKS.answers("4: one at hand", 1, () -> x.count(4));
        CHECKS.answers("4: open", 9, () -> x.way(0, 2, 0));
        CHECKS.answers("4: open from the other side", 9, () -> x.way(1, 0, 0));
        CHECKS.done("4: given back", () -> x.key(30, false));
        CHECKS.answers("4: locked again", -1, () -> x.way(0, 2, 0));
        CHECKS.done("4: another key", () -> x.key(29, true));
        CHECKS.answers("4: opens nothing", -1, () -> x.way(0, 2, 0));
        for (int key = 1; key <= 28; key++) {
            x.key(key, true);
        }
        CHECKS.answers("4: all but one", 29, () -> x.count(4));
    }

    private static void hazards() {
        PlanRows x = fourRooms();
        x.door(0, 1, 9, 0);
        CHECKS.unknown("5: room -1", () -> x.hazard(-1, 0));
        CHECKS.unknown("5: room 4", () -> x.hazard(4, 0));
        CHECKS.unknown("5: the room before the bits", () -> x.hazard(4, 256));
        CHECKS.range("5: 256", () -> x.hazard(1, 256));
        CHECKS.range("5: -1", () -> x.hazard(1, -1));
        CHECKS.answers("5: none at first", 9, () -> x.way(0, 2, 255));
        CHECKS.done("5: bits 1 and 4", () -> x.hazard(1, 5));
        CHECKS.answers("5: a bit of it", -1, () -> x.way(0, 2, 4));
        CHECKS.answers("5: both and others", -1, () -> x.way(0, 2, 255));
        CHECKS.answers("5: other bits", 9, () -> x.way(0, 2, 250));
        CHECKS.range("5: refused", () -> x.hazard(1, 256));
        CHECKS.answers("5: what is refused changes nothing", -1, () -> x.way(0, 2, 1));
        CHECKS.done("5: others in their place", () -> x.hazard(1, 255));
        CHECKS.answers("5: the highest bit", -1, () -> x.way(0, 2, 128));
        CHECKS.done("5: none", () -> x.hazard(1, 0));
        CHECKS.answers("5: gone", 9, () -> x.way(0, 2, 255));
    }

    private static void missingKeys() {
        PlanRows x = fourRooms();
        x.door(0, 1, 1, 30);
        x.door(0, 1, 1, 0);
        x.door(0, 1, 1, 4);
        x.door(0, 2, 1, 4);
        x.door(0, 2, 1, 1);
        CHECKS.range("11: -1", () -> x.missing(-1));
        CHECKS.range("11: the lowest int", () -> x.missing(Integer.MIN_VALUE));
        CHECKS.answers("11: first", 1, () -> x.missing(0));
        CHECKS.answers("11: a key of two doors counts once", 4, () -> x.missing(1));
        CHECKS.answers("11: last", 30, () -> x.missing(2));
        CHECKS.answers("11: behind it", -1, () -> x.missing(3));
        CHECKS.answers("11: far behind it", -1, () -> x.missing(Integer.MAX_VALUE));
        x.key(4, true);
        x.key(9, true);
        CHECKS.answers("11: one at hand is not missing", 30, () -> x.missing(1));
        CHECKS.answers("11: two are left", -1, () -> x.missing(2));
        x.key(4, false);
        CHECKS.answers("11: missing again", 4, () -> x.missing(1));
    }

    private static void counts() {
        PlanRows x = fourRooms();
        x.door(0, 1, 1, 0);
        x.door(0, 1, 1, 0);
        x.door(0, 1, 1, 0);
        x.detector(1, 1, 0);
        x.detector(1, 2, 0);
        x.window(0, 0, 0, 0);
        for (int key = 1; key <= 5; key++) {
            x.key(key, true);
        }
        x.people(0, 0, 0, 7);
        CHECKS.answers("21: rooms", 4, () -> x.count(0));
        CHECKS.answers("21: doors", 3, () -> x.count(1));
        CHECKS.answers("21: detectors", 2, () -> x.count(2));
        CHECKS.answers("21: windows", 1, () -> x.count(3));
        CHECKS.answers("21: keys at hand", 5, () -> x.count(4));
        x.key(5, false);
        CHECKS.answers("21: one key less", 4, () -> x.count(4));
        CHECKS.unknown("21: what -1", () -> x.count(-1));
        CHECKS.unknown("21: what 5", () -> x.count(5));
    }
}
