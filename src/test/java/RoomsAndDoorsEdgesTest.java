/** Each sentence of promises 1 to 5, 11 and 21, and of their terms, that names a boundary. */
public final class RoomsAndDoorsEdgesTest {
    private static final Sentences SENTENCES = new Sentences();
    private static final String HOUSE = Sentences.HOUSE;
    private static final String FORTY_ROOMS = HOUSE + Sentences.times(35, i -> "room 0 0 -> " + (5 + i)) + "\n";
    private static final String EIGHTY_DOORS = HOUSE + Sentences.times(76, i -> "door 0 1 20 9 -> " + (4 + i)) + "\n";

    public static void main(String[] args) {
        emptyPlan();
        firstTermAndDay();
        roomNumbers();
        roomRefusals();
        roomLimit();
        doorNumbers();
        doorUnknown();
        doorRanges();
        doorStates();
        doorLimit();
        doorTwoRefusals();
        keys();
        keyRefusals();
        hazards();
        hazardRefusals();
        missingKeys();
        counts();
        SENTENCES.end("RoomsAndDoorsEdgesTest");
    }

    private static void emptyPlan() {
        SENTENCES.test("1: an empty plan has nothing to count", Sentences.times(5, what -> "count " + what + " -> 0"));
        SENTENCES.test("1: an empty plan has no room", "hazard 0 0 -> unknown", "way 0 0 0 -> unknown",
                "hoses 0 1 -> unknown", "detector 1 1 0 -> unknown", "people 0 0 0 0 -> unknown",
                "window 0 0 0 0 -> unknown", "door 0 0 1 0 -> unknown", "door 0 1 1 0 -> unknown");
        SENTENCES.test("1: an empty plan has no window", "reaches 0 0 0 0 1 -> unknown", "ladder 0 0 0 0 -> unknown");
        SENTENCES.test("1: an empty plan has no way", "step 0 -> -1", "told 0 -> 0", "told 1 -> 0", "told 2 -> -1");
        SENTENCES.test("1: in an empty plan nobody is trapped", "trapped 0 -> -1", "trapped max -> -1");
        SENTENCES.test("1: in an empty plan no key is missing", "missing 0 -> -1", "missing max -> -1");
        SENTENCES.test("1: in an empty plan nobody is inside", Sentences.times(21, i -> "inside " + (i - 1) + " 0 -> 0"),
                Sentences.times(24, hour -> "inside -1 " + hour + " -> 0"));
        SENTENCES.test("1: in an empty plan no detector is told", Sentences.times(9, i -> "alarm " + (i + 1) + " 1 -> " + (-2 - i)),
                Sentences.times(9, i -> "alarm " + (i + 1) + " 99 -> " + (-2 - i)));
        SENTENCES.test("1: in an empty plan no key is at hand", Sentences.times(30, i -> "key " + (i + 1) + " false -> state"));
        SENTENCES.test("1: numbers begin with 0", "room 5 0 -> 0", "room 5 0 -> 1", "door 0 1 1 0 -> 0",
                "people 0 0 0 0 -> 0", "window 0 0 0 0 -> 0");
    }

    private static void firstTermAndDay() {
        SENTENCES.test("1: looked at on day 0, 365 days at first", "old 0 -> false", "old 365 -> false", "old 366 -> true",
                "old 99999 -> true");
        SENTENCES.test("1: the latest look was on day 0", "look -1 1 -> range", "look 0 1 -> done", "old 1 -> false", "old 2 -> true");
    }

    private static void roomNumbers() {
        SENTENCES.test("2: one more room, its number", HOUSE, "room 0 0 -> 5", "room 0 0 -> 6", "count 0 -> 7");
        SENTENCES.test("2: a refused room takes no number", HOUSE, "room 20 0 -> range", "room 0 3 -> unknown", "room 0 0 -> 5",
                "count 0 -> 6");
        SENTENCES.test("2: each floor 0 .. 19 has rooms", Sentences.times(20, floor -> "room " + floor + " 0 -> " + floor),
                "room 20 0 -> range", Sentences.times(19, floor -> "door " + floor + " " + (floor + 1) + " 1 0 -> " + floor),
                "way 0 0 0 -> 0", "count 0 -> 20");
    }

    private static void roomRefusals() {
        SENTENCES.test("2: unknown: no such kind", HOUSE, "room 0 -1 -> unknown", "room 0 3 -> unknown", "room 0 min -> unknown",
                "room 0 max -> unknown", "room 0 0 -> 5", "room 0 1 -> 6", "room 0 2 -> 7");
        SENTENCES.test("2: the kinds are inner 0, riser 1, outside 2", "room 3 0 -> 0", "room 3 1 -> 1", "room 3 2 -> 2",
                "way 0 0 0 -> 0", "way 1 1 0 -> 0", "way 2 2 0 -> 0", "way 0 1 0 -> -1", "way 0 2 0 -> -1", "way 1 0 0 -> -1",
                "way 1 2 0 -> -1", "way 2 0 0 -> -1", "way 2 1 0 -> -1");
        SENTENCES.test("2: range: the floor", HOUSE, "room -1 0 -> range", "room 20 0 -> range", "room min 0 -> range",
                "room max 0 -> range", "room 0 0 -> 5", "room 19 0 -> 6");
        SENTENCES.test("2: unknown before range", HOUSE, "room -1 -1 -> unknown", "room 20 3 -> unknown", "room max min -> unknown");
    }

    private static void roomLimit() {
        SENTENCES.test("2: no room: there are 40", FORTY_ROOMS, "count 0 -> 40", "room 0 0 -> noroom", "room 19 2 -> noroom",
                "count 0 -> 40", "hazard 39 1 -> done", "hazard 40 1 -> unknown");
        SENTENCES.test("2: one more than 40 leaves the last one as it is", FORTY_ROOMS, "room 19 2 -> noroom", "trapped 35 -> 39", "door 39 0 1 0 -> 4",
                "way 39 2 0 -> 1", "told 1 -> 0", "people 39 1 1 8 -> 2", "inside 0 1 -> 8");
        SENTENCES.test("2: unknown before no room", FORTY_ROOMS, "room 0 3 -> unknown", "room 0 -1 -> unknown");
        SENTENCES.test("2: range before no room", FORTY_ROOMS, "room 20 0 -> range", "room -1 0 -> range");
        SENTENCES.test("2: unknown before range and no room", FORTY_ROOMS, "room 20 3 -> unknown", "room -1 -1 -> unknown");
        SENTENCES.test("2: the fortieth room is one like the others", FORTY_ROOMS, "door 39 0 1 0 -> 4", "way 39 2 0 -> 1",
                "hoses 39 1 -> 24", "detector 5 5 39 -> done", "alarm 5 5 -> 39", "people 39 0 0 1 -> 2", "window 39 0 0 0 -> 2");
    }

    private static void doorNumbers() {
        SENTENCES.test("3: one more door, its number", HOUSE, "door 0 1 1 0 -> 4", "door 1 0 1 0 -> 5", "door 3 4 1 0 -> 6", "count 1 -> 7");
        SENTENCES.test("3: a refused door takes no number", HOUSE, "door 0 5 1 0 -> unknown", "door 0 1 0 0 -> range",
                "door 0 0 1 0 -> state", "door 0 1 1 0 -> 4", "count 1 -> 5");
        SENTENCES.test("3: a refused door is not passed", "room 0 0 -> 0", "room 0 2 -> 1", "room 2 2 -> 2", "door 0 1 501 0 -> range",
                "door 0 1 1 31 -> range", "door 0 2 1 0 -> state", "way 0 2 0 -> -1", "trapped 0 -> 0");
    }

    private static void doorUnknown() {
        SENTENCES.test("3: unknown: no such first room", HOUSE, "door -1 1 1 0 -> unknown", "door 5 1 1 0 -> unknown",
                "door min 1 1 0 -> unknown", "door max 1 1 0 -> unknown", "door 4 3 1 0 -> 4", "door 0 1 1 0 -> 5");
        SENTENCES.test("3: unknown: no such second room", HOUSE, "door 1 -1 1 0 -> unknown", "door 1 5 1 0 -> unknown",
                "door 1 min 1 0 -> unknown", "door 1 max 1 0 -> unknown", "door 3 4 1 0 -> 4", "door 1 0 1 0 -> 5");
        SENTENCES.test("3: unknown: neither room", HOUSE, "door 5 6 1 0 -> unknown", "door -1 -2 1 0 -> unknown");
        SENTENCES.test("3: one room has no other one", "room 0 0 -> 0", "door 0 1 1 0 -> unknown", "door 1 0 1 0 -> unknown",
                "room 0 0 -> 1", "door 0 1 1 0 -> 0");
    }

    private static void doorRanges() {
        SENTENCES.test("3: range: metres 1 .. 500", "room 0 0 -> 0", "room 0 1 -> 1", "room 0 2 -> 2", "door 0 1 0 0 -> range",
                "door 0 1 -1 0 -> range", "door 0 1 501 0 -> range", "door 0 1 min 0 -> range", "door 0 1 max 0 -> range",
                "door 0 1 1 0 -> 0", "door 0 2 500 0 -> 1", "way 0 1 0 -> 1", "way 0 2 0 -> 500");
        SENTENCES.test("3: range: key 1 .. 30 or none 0", "room 0 0 -> 0", "room 0 1 -> 1", "door 0 1 9 -1 -> range",
                "door 0 1 9 31 -> range", "door 0 1 9 min -> range", "door 0 1 9 max -> range", "door 0 1 9 30 -> 0",
                "door 0 1 8 1 -> 1", "way 0 1 0 -> -1", "key 30 true -> done", "way 0 1 0 -> 9", "key 1 true -> done", "way 0 1 0 -> 8",
                "door 0 1 7 0 -> 2", "way 0 1 0 -> 7");
    }

    private static void doorStates() {
        SENTENCES.test("3: state: the rooms are one", HOUSE, Sentences.times(5, room -> "door " + room + " " + room + " 1 0 -> state"));
        SENTENCES.test("3: the same floor is no stair", "room 7 0 -> 0", "room 7 2 -> 1", "door 0 1 1 0 -> 0", "way 0 2 0 -> 1", "told 1 -> 0");
        SENTENCES.test("3: a stair goes to the floor above", "room 7 0 -> 0", "room 8 2 -> 1", "door 0 1 1 0 -> 0", "way 0 2 0 -> 1", "told 1 -> 1");
        SENTENCES.test("3: a stair goes to the floor below", "room 7 0 -> 0", "room 6 2 -> 1", "door 0 1 1 0 -> 0", "way 0 2 0 -> 1", "told 1 -> 1");
        SENTENCES.test("3: state: two floors above or below", "room 7 0 -> 0", "room 9 2 -> 1", "room 5 2 -> 2", "door 0 1 1 0 -> state",
                "door 1 0 1 0 -> state", "door 0 2 1 0 -> state", "door 2 0 1 0 -> state", "count 1 -> 0");
        SENTENCES.test("3: the lowest floor and the highest are no neighbours", "room 0 0 -> 0", "room 19 2 -> 1", "door 0 1 1 0 -> state",
                "door 1 0 1 0 -> state", "room 18 0 -> 2", "room 1 0 -> 3", "door 1 2 1 0 -> 0", "door 0 3 1 0 -> 1");
    }

    private static void doorLimit() {
        SENTENCES.test("3: no room: there are 80", EIGHTY_DOORS, "count 1 -> 80", "door 0 1 1 0 -> noroom", "door 3 4 1 0 -> noroom",
                "count 1 -> 80", "way 1 2 0 -> 10", "step 0 -> 0");
        SENTENCES.test("3: one more than 80 leaves the last one as it is", HOUSE, Sentences.times(75, i -> "door 0 1 20 9 -> " + (4 + i)),
                "door 1 0 3 8 -> 79", "key 8 true -> done", "way 1 2 0 -> 3", "door 1 0 2 0 -> noroom", "door 3 4 500 30 -> noroom", "way 1 2 0 -> 3",
                "step 0 -> 79", "key 8 false -> done", "way 1 2 0 -> 10", "missing 0 -> 8", "missing 1 -> 9", "trapped 0 -> 4", "trapped 1 -> -1");
        SENTENCES.test("3: unknown before no room", EIGHTY_DOORS, "door 5 1 1 0 -> unknown", "door 1 -1 1 0 -> unknown");
        SENTENCES.test("3: range before no room", EIGHTY_DOORS, "door 0 1 0 0 -> range", "door 0 1 501 0 -> range", "door 0 1 1 -1 -> range",
                "door 0 1 1 31 -> range");
        SENTENCES.test("3: state before no room", EIGHTY_DOORS, "door 1 1 1 0 -> state", "door 0 4 1 0 -> state");
        SENTENCES.test("3: unknown before all others", EIGHTY_DOORS, "door 5 5 0 31 -> unknown", "door -1 -1 501 -1 -> unknown");
        SENTENCES.test("3: range before state and no room", EIGHTY_DOORS, "door 1 1 0 0 -> range", "door 0 4 1 31 -> range");
        SENTENCES.test("3: the eightieth door is one like the others", HOUSE, Sentences.times(75, i -> "door 0 1 20 0 -> " + (4 + i)),
                "door 4 3 6 11 -> 79", "missing 0 -> 11", "missing 1 -> 30", "trapped 0 -> 4", "key 11 true -> done", "way 4 2 0 -> 29",
                "step 0 -> 79", "told 1 -> 2", "trapped 0 -> -1", "hoses 4 6 -> 1");
    }

    private static void doorTwoRefusals() {
        SENTENCES.test("3: unknown before range", HOUSE, "door 5 1 0 0 -> unknown", "door 1 5 501 0 -> unknown", "door -1 1 1 31 -> unknown",
                "door 1 -1 1 -1 -> unknown");
        SENTENCES.test("3: unknown before state", HOUSE, "door 5 5 1 0 -> unknown", "door -1 -1 1 0 -> unknown");
        SENTENCES.test("3: range before state, the rooms are one", HOUSE, "door 1 1 0 0 -> range", "door 1 1 501 0 -> range",
                "door 1 1 1 -1 -> range", "door 1 1 1 31 -> range");
        SENTENCES.test("3: range before state, the floors", HOUSE, "door 0 4 0 0 -> range", "door 0 4 501 0 -> range",
                "door 4 0 1 -1 -> range", "door 4 0 1 31 -> range");
        SENTENCES.test("3: unknown before range before state", HOUSE, "door 5 5 0 31 -> unknown", "door 0 0 501 31 -> range");
    }

    private static void keys() {
        SENTENCES.test("4: a key is at hand, or not", HOUSE, "way 3 2 0 -> 23", "key 7 false -> done", "way 3 2 0 -> -1", "key 7 true -> done",
                "way 3 2 0 -> 23", "way 1 1 0 -> 13");
        SENTENCES.test("4: keys are not at hand at first", Sentences.times(30, i -> "key " + (i + 1) + " false -> state"), "count 4 -> 0");
        SENTENCES.test("4: all thirty keys at hand", Sentences.times(30, i -> "key " + (i + 1) + " true -> done"), "count 4 -> 30",
                Sentences.times(30, i -> "key " + (i + 1) + " true -> state"), "count 4 -> 30",
                Sentences.times(30, i -> "key " + (i + 1) + " false -> done"), "count 4 -> 0");
        SENTENCES.test("4: each key opens its own doors alone", "room 0 0 -> 0", "room 0 2 -> 1", "door 0 1 3 15 -> 0",
                Sentences.times(14, i -> "key " + (i + 1) + " true -> done"), Sentences.times(15, i -> "key " + (i + 16) + " true -> done"),
                "way 0 2 0 -> -1", "trapped 0 -> 0", "missing 0 -> 15", "key 15 true -> done", "way 0 2 0 -> 3", "trapped 0 -> -1");
    }

    private static void keyRefusals() {
        SENTENCES.test("4: unknown: no such key", HOUSE, "key 0 true -> unknown", "key -1 true -> unknown", "key 31 true -> unknown",
                "key min true -> unknown", "key max true -> unknown", "count 4 -> 1", "key 1 true -> done", "key 30 true -> done", "count 4 -> 3");
        SENTENCES.test("4: unknown before state: none of them is at hand", HOUSE, "key 0 false -> unknown", "key -1 false -> unknown",
                "key 31 false -> unknown", "key min false -> unknown", "key max false -> unknown");
        SENTENCES.test("4: state: it is at hand", HOUSE, "key 7 true -> state", "count 4 -> 1", "key 7 false -> done", "count 4 -> 0");
        SENTENCES.test("4: state: it is not at hand", HOUSE, "key 30 false -> state", "key 1 false -> state", "count 4 -> 1",
                "key 7 false -> done", "key 7 false -> state", "count 4 -> 0");
    }

    private static void hazards() {
        SENTENCES.test("5: none at first", "room 0 0 -> 0", "room 0 2 -> 1", "door 0 1 4 0 -> 0", "way 0 2 255 -> 4");
        for (int bit = 1; bit <= 128; bit *= 2) {
            SENTENCES.test("5: the hazard of bit " + bit, "room 0 0 -> 0", "room 0 2 -> 1", "door 0 1 4 0 -> 0", "hazard 1 " + bit + " -> done",
                    "way 0 2 " + bit + " -> -1", "way 0 2 255 -> -1", "way 0 2 " + (255 - bit) + " -> 4", "way 0 2 0 -> 4",
                    "hazard 1 " + (255 - bit) + " -> done", "way 0 2 " + bit + " -> 4", "way 0 2 255 -> -1");
        }
        SENTENCES.test("5: a room's hazards are those told last", "room 0 0 -> 0", "room 0 2 -> 1", "door 0 1 4 0 -> 0", "hazard 1 3 -> done",
                "hazard 1 4 -> done", "way 0 2 3 -> 4", "way 0 2 4 -> -1", "hazard 1 0 -> done", "way 0 2 255 -> 4");
        SENTENCES.test("5: of its own room alone", HOUSE, "hazard 1 128 -> done", "way 0 1 128 -> -1", "way 2 1 128 -> 8", "way 3 0 128 -> 8");
    }

    private static void hazardRefusals() {
        SENTENCES.test("5: unknown: no such room", HOUSE, "hazard -1 1 -> unknown", "hazard 5 1 -> unknown", "hazard min 1 -> unknown",
                "hazard max 1 -> unknown", "hazard 0 1 -> done", "hazard 4 1 -> done");
        SENTENCES.test("5: range: bits above 255", HOUSE, "hazard 2 256 -> range", "hazard 2 257 -> range", "hazard 2 max -> range",
                "hazard 2 255 -> done", "way 3 2 128 -> -1");
        SENTENCES.test("5: range: bits below 0", HOUSE, "hazard 2 -1 -> range", "hazard 2 min -> range", "hazard 2 0 -> done", "way 3 2 255 -> 23");
        SENTENCES.test("5: unknown before range", HOUSE, "hazard 5 256 -> unknown", "hazard -1 -1 -> unknown");
        SENTENCES.test("5: refused hazards leave the ones before", HOUSE, "hazard 2 256 -> range", "way 3 2 5 -> -1", "way 3 2 250 -> 23");
    }

    private static void missingKeys() {
        SENTENCES.test("11: range: i is below 0", HOUSE, "missing -1 -> range", "missing min -> range", "missing 0 -> 30");
        SENTENCES.test("11: -1 when there are not so many", HOUSE, "missing 1 -> -1", "missing 29 -> -1", "missing max -> -1");
        SENTENCES.test("11: all thirty keys, rising", "room 0 0 -> 0", "room 0 0 -> 1", Sentences.times(30, i -> "door 0 1 1 " + (30 - i) + " -> " + i),
                Sentences.times(30, i -> "missing " + i + " -> " + (i + 1)), "missing 30 -> -1", "missing 31 -> -1");
        SENTENCES.test("11: a door without a key misses none", "room 0 0 -> 0", "room 0 0 -> 1", "door 0 1 1 0 -> 0", "missing 0 -> -1");
        SENTENCES.test("11: a key at hand is not missing", HOUSE, "key 30 true -> done", "missing 0 -> -1", "key 7 false -> done", "missing 0 -> 7",
                "missing 1 -> -1", "key 30 false -> done", "missing 1 -> 30", "missing 2 -> -1");
        SENTENCES.test("11: a key that opens no door is not missing", "room 0 0 -> 0", "room 0 0 -> 1", "missing 0 -> -1", "door 0 1 1 2 -> 0",
                "missing 0 -> 2", "missing 1 -> -1");
        SENTENCES.test("11: a key of two doors is missing once", HOUSE, "door 0 1 1 30 -> 4", "missing 0 -> 30", "missing 1 -> -1");
        SENTENCES.test("11: a refused door misses no key", HOUSE, "door 0 0 1 5 -> state", "door 0 1 0 5 -> range", "missing 0 -> 30");
    }

    private static void counts() {
        SENTENCES.test("21: unknown: no such what", HOUSE, "count -1 -> unknown", "count 5 -> unknown", "count min -> unknown", "count max -> unknown");
        SENTENCES.test("21: 0 rooms, 1 doors, 2 detectors, 3 windows, 4 keys at hand", HOUSE, "detector 3 3 0 -> done", "count 0 -> 5",
                "count 1 -> 4", "count 2 -> 3", "count 3 -> 2", "count 4 -> 1");
        SENTENCES.test("21: rows of people are not counted", HOUSE, "people 0 0 0 9 -> 2", "count 0 -> 5", "count 1 -> 4", "count 2 -> 2",
                "count 3 -> 2", "count 4 -> 1");
    }
}
