/** Each sentence of promises 6 to 10, and of the terms of a way, that names a boundary. */
public final class WaysEdgesTest {
    private static final Sentences SENTENCES = new Sentences();
    private static final String HOUSE = Sentences.HOUSE;
    /** The latest way of HOUSE. */
    private static final String WAY_OF_HOUSE = """
            told 0 -> 3
            told 1 -> 1
            told 2 -> 0
            step 0 -> 2
            step 1 -> 1
            step 2 -> 0
            step 3 -> -1
            """;
    /** A way that is not there, or none at all. */
    private static final String NO_WAY = """
            told 0 -> 0
            told 1 -> 0
            told 2 -> -1
            step 0 -> -1
            step 1 -> -1
            """;
    /** Room 0 inside, room 1 in between, room 2 outside. */
    private static final String THREE_IN_A_ROW = """
            room 0 0 -> 0
            room 0 0 -> 1
            room 0 2 -> 2
            door 0 1 3 0 -> 0
            door 1 2 4 0 -> 1
            """;

    public static void main(String[] args) {
        doorsPassed();
        hazardsOnTheWay();
        leastMetres();
        fewestStairs();
        lowestRoom();
        lowestDoors();
        ofTheKindItself();
        withoutOne();
        wayRefusals();
        longestWay();
        steps();
        told();
        latestWay();
        hoses();
        hoseRefusals();
        trapped();
        trappedOnes();
        SENTENCES.end("WaysEdgesTest");
    }

    private static void doorsPassed() {
        SENTENCES.test("6: a door is passed both ways", "room 0 1 -> 0", "room 0 2 -> 1", "door 0 1 3 0 -> 0", "way 0 2 0 -> 3", "way 1 1 0 -> 3",
                "room 0 0 -> 2", "door 2 1 4 0 -> 1", "way 2 1 0 -> 7", "way 0 0 0 -> 7");
        SENTENCES.test("6: a door is passed when it has no key", THREE_IN_A_ROW, "way 0 2 0 -> 7");
        SENTENCES.test("6: a door is passed when its key is at hand", THREE_IN_A_ROW, "door 0 2 1 12 -> 2", "way 0 2 0 -> 7", "key 12 true -> done",
                "way 0 2 0 -> 1", "step 0 -> 2", "key 12 false -> done", "way 0 2 0 -> 7", "step 0 -> 0");
        SENTENCES.test("6: the way goes from its room", THREE_IN_A_ROW, "room 0 2 -> 3", "way 0 2 0 -> 7", "way 1 2 0 -> 4", "way 3 0 0 -> -1");
    }

    private static void hazardsOnTheWay() {
        SENTENCES.test("6: a room with a hazard of the set is not gone through", THREE_IN_A_ROW, "hazard 1 6 -> done", "way 0 2 2 -> -1",
                "way 0 2 4 -> -1", "way 0 2 6 -> -1", "way 0 2 255 -> -1", NO_WAY);
        SENTENCES.test("6: nor is one gone into as the end", THREE_IN_A_ROW, "hazard 2 1 -> done", "way 0 2 1 -> -1", "way 1 2 1 -> -1", NO_WAY);
        SENTENCES.test("6: one with hazards out of the set is", THREE_IN_A_ROW, "hazard 1 6 -> done", "hazard 2 1 -> done", "way 0 2 248 -> 7",
                "way 0 2 0 -> 7");
        SENTENCES.test("6: one may begin there", THREE_IN_A_ROW, "hazard 0 255 -> done", "way 0 2 255 -> 7", "hazard 1 8 -> done", "way 1 2 8 -> 4",
                "way 1 2 255 -> 4", "way 0 2 8 -> -1");
        SENTENCES.test("6: round a room with a hazard", THREE_IN_A_ROW, "door 0 2 500 0 -> 2", "hazard 1 1 -> done", "way 0 2 1 -> 500", "step 0 -> 2",
                "way 0 2 2 -> 7", "step 0 -> 0");
        SENTENCES.test("6: to another room of the kind, when the nearest has a hazard", THREE_IN_A_ROW, "room 0 2 -> 3", "door 0 3 90 0 -> 2",
                "hazard 2 1 -> done", "way 0 2 1 -> 90", "told 2 -> 3", "way 0 2 2 -> 7", "told 2 -> 2");
    }

    private static void leastMetres() {
        SENTENCES.test("6: the least metres, though more doors", THREE_IN_A_ROW, "door 0 2 8 0 -> 2", "way 0 2 0 -> 7", "told 0 -> 2");
        SENTENCES.test("6: the least metres, though more stairs", "room 0 0 -> 0", "room 1 0 -> 1", "room 0 2 -> 2", "door 0 2 3 0 -> 0",
                "door 0 1 1 0 -> 1", "door 1 2 1 0 -> 2", "way 0 2 0 -> 2", "told 1 -> 2", "told 0 -> 2", "step 0 -> 1", "step 1 -> 2");
        SENTENCES.test("6: the least metres, though a higher room", THREE_IN_A_ROW, "room 0 2 -> 3", "door 3 0 6 0 -> 2", "way 0 2 0 -> 6", "told 2 -> 3");
        SENTENCES.test("6: the least metres, though 38 stairs", Sentences.times(40, i -> "room " + (i == 39 ? 0 : i % 2) + (i == 39 ? " 2 -> 39" : " 0 -> " + i)),
                Sentences.times(38, i -> "door " + i + " " + (i + 1) + " 1 0 -> " + i), "door 38 39 1 0 -> 38", "door 0 39 40 0 -> 39",
                "way 0 2 0 -> 39", "told 0 -> 39", "told 1 -> 38", "step 0 -> 0", "step 38 -> 38");
    }

    private static void fewestStairs() {
        SENTENCES.test("6: of the least metres the fewest stairs", "room 1 0 -> 0", "room 2 2 -> 1", "room 1 0 -> 2", "room 1 2 -> 3",
                "door 0 1 10 0 -> 0", "door 0 2 5 0 -> 1", "door 2 3 5 0 -> 2", "way 0 2 0 -> 10", "told 1 -> 0", "told 2 -> 3", "told 0 -> 2",
                "step 0 -> 1", "step 1 -> 2");
        SENTENCES.test("6: of ways to one room too", "room 1 0 -> 0", "room 2 0 -> 1", "room 1 0 -> 2", "room 1 2 -> 3", "door 0 1 5 0 -> 0",
                "door 1 3 5 0 -> 1", "door 0 2 5 0 -> 2", "door 2 3 5 0 -> 3", "way 0 2 0 -> 10", "told 1 -> 0", "step 0 -> 2", "step 1 -> 3");
        SENTENCES.test("6: one stair is fewer than two", "room 1 0 -> 0", "room 2 0 -> 1", "room 1 2 -> 2", "room 2 2 -> 3", "door 0 1 5 0 -> 0",
                "door 1 2 5 0 -> 1", "door 1 3 5 0 -> 2", "way 0 2 0 -> 10", "told 1 -> 1", "told 2 -> 3", "step 1 -> 2");
    }

    private static void lowestRoom() {
        SENTENCES.test("6: of these that to the lowest room", "room 0 0 -> 0", "room 0 2 -> 1", "room 0 2 -> 2", "door 0 2 9 0 -> 0", "door 0 1 9 0 -> 1",
                "way 0 2 0 -> 9", "told 2 -> 1", "step 0 -> 1");
        SENTENCES.test("6: the lowest by its number, not by its floor", "room 1 0 -> 0", "room 2 2 -> 1", "room 0 2 -> 2", "door 0 2 9 0 -> 0",
                "door 0 1 9 0 -> 1", "way 0 2 0 -> 9", "told 2 -> 1");
        SENTENCES.test("6: the lowest room, though more doors", "room 0 2 -> 0", "room 0 0 -> 1", "room 0 0 -> 2", "room 0 2 -> 3", "door 2 3 9 0 -> 0",
                "door 2 1 4 0 -> 1", "door 1 0 5 0 -> 2", "way 2 2 0 -> 9", "told 2 -> 0", "told 0 -> 2", "step 0 -> 1", "step 1 -> 2");
        SENTENCES.test("6: from room 39 to room 38, not to room 37", Sentences.times(40, i -> "room 0 " + (i == 37 || i == 38 ? 2 : 0) + " -> " + i),
                "door 39 37 2 0 -> 0", "door 38 39 1 0 -> 1", "way 39 2 0 -> 1", "told 2 -> 38", "door 37 39 1 0 -> 2", "way 39 2 0 -> 1", "told 2 -> 37");
    }

    private static void lowestDoors() {
        SENTENCES.test("6: of two doors into the room the lowest", "room 0 0 -> 0", "room 0 2 -> 1", "door 0 1 9 0 -> 0", "door 1 0 9 0 -> 1",
                "way 0 2 0 -> 9", "step 0 -> 0", "step 1 -> -1");
        SENTENCES.test("6: a lower door that is not passed does not count", "room 0 0 -> 0", "room 0 2 -> 1", "door 0 1 9 3 -> 0", "door 1 0 9 0 -> 1",
                "way 0 2 0 -> 9", "step 0 -> 1", "key 3 true -> done", "way 0 2 0 -> 9", "step 0 -> 0");
        SENTENCES.test("6: a lower door with more metres does not count", "room 0 0 -> 0", "room 0 2 -> 1", "door 0 1 10 0 -> 0", "door 1 0 9 0 -> 1",
                "way 0 2 0 -> 9", "step 0 -> 1");
        SENTENCES.test("6: told from its end: the last door is chosen first", "room 0 0 -> 0", "room 0 0 -> 1", "room 0 0 -> 2", "room 0 2 -> 3",
                "door 0 1 1 0 -> 0", "door 2 3 1 0 -> 1", "door 1 3 1 0 -> 2", "door 0 2 1 0 -> 3", "way 0 2 0 -> 2", "step 0 -> 3", "step 1 -> 1");
        SENTENCES.test("6: over a room with a hazard of the set no way comes", "room 0 0 -> 0", "room 0 0 -> 1", "room 0 0 -> 2", "room 0 2 -> 3",
                "door 0 1 1 0 -> 0", "door 1 3 1 0 -> 1", "door 0 2 1 0 -> 2", "door 2 3 1 0 -> 3", "hazard 1 1 -> done", "way 0 2 1 -> 2",
                "step 0 -> 2", "step 1 -> 3", "way 0 2 2 -> 2", "step 0 -> 0", "step 1 -> 1");
        SENTENCES.test("6: a way with more stairs does not count for its lower door", "room 0 0 -> 0", "room 1 0 -> 1", "room 0 0 -> 2", "room 0 2 -> 3",
                "door 0 1 1 0 -> 0", "door 1 3 1 0 -> 1", "door 0 2 1 0 -> 2", "door 2 3 1 0 -> 3", "way 0 2 0 -> 2", "step 0 -> 2", "step 1 -> 3",
                "told 1 -> 0");
    }

    private static void ofTheKindItself() {
        SENTENCES.test("6: a room that is of the kind itself has the way of no doors", HOUSE, "way 0 2 0 -> 0", "told 0 -> 0", "told 1 -> 0",
                "told 2 -> 0", "step 0 -> -1", "way 3 1 0 -> 0", "told 2 -> 3", "step 0 -> -1", "way 4 0 0 -> 0", "told 2 -> 4", "step 0 -> -1");
        SENTENCES.test("6: though it has a hazard of the set", HOUSE, "hazard 0 255 -> done", "way 0 2 255 -> 0", "told 2 -> 0", "told 0 -> 0");
        SENTENCES.test("6: though a lower room is of the kind", HOUSE, "way 2 0 0 -> 0", "told 2 -> 2", "room 0 2 -> 5", "door 0 5 1 0 -> 4",
                "way 5 2 0 -> 0", "told 2 -> 5", "step 0 -> -1");
        SENTENCES.test("6: though it has no door", "room 0 1 -> 0", "way 0 1 255 -> 0", "told 0 -> 0", "told 1 -> 0", "told 2 -> 0", "step 0 -> -1");
    }

    private static void withoutOne() {
        SENTENCES.test("6: -1 without one: no room of the kind", THREE_IN_A_ROW, "way 0 1 0 -> -1", NO_WAY);
        SENTENCES.test("6: -1 without one: no door", "room 0 0 -> 0", "room 0 2 -> 1", "way 0 2 0 -> -1", NO_WAY, "way 1 0 0 -> -1");
        SENTENCES.test("6: -1 without one: the key is not at hand", THREE_IN_A_ROW, "room 0 1 -> 3", "door 2 3 1 30 -> 2", "way 0 1 0 -> -1", NO_WAY,
                "key 29 true -> done", "way 0 1 0 -> -1", "key 30 true -> done", "way 0 1 0 -> 8");
        SENTENCES.test("6: -1 without one: a hazard", THREE_IN_A_ROW, "hazard 2 128 -> done", "way 0 2 128 -> -1", NO_WAY, "way 0 2 127 -> 7");
    }

    private static void wayRefusals() {
        SENTENCES.test("6: unknown: no such room", HOUSE, "way -1 2 0 -> unknown", "way 5 2 0 -> unknown", "way min 2 0 -> unknown", "way max 2 0 -> unknown",
                WAY_OF_HOUSE, "way 0 2 0 -> 0", "way 4 2 0 -> -1");
        SENTENCES.test("6: unknown: no such kind", HOUSE, "way 1 -1 0 -> unknown", "way 1 3 0 -> unknown", "way 1 min 0 -> unknown", "way 1 max 0 -> unknown",
                WAY_OF_HOUSE, "way 1 0 0 -> 0", "way 1 1 0 -> 13", "way 1 2 0 -> 10");
        SENTENCES.test("6: range: the set", HOUSE, "way 1 2 -1 -> range", "way 1 2 256 -> range", "way 1 2 min -> range", "way 1 2 max -> range",
                WAY_OF_HOUSE, "way 1 2 0 -> 10", "way 1 2 255 -> 10");
        SENTENCES.test("6: unknown before range", HOUSE, "way 5 2 256 -> unknown", "way -1 2 -1 -> unknown", "way 1 3 256 -> unknown", "way 1 -1 -1 -> unknown",
                "way 5 3 256 -> unknown", WAY_OF_HOUSE);
        SENTENCES.test("6: neither such a room nor such a kind", HOUSE, "way 5 3 0 -> unknown", "way -1 -1 0 -> unknown", WAY_OF_HOUSE);
        SENTENCES.test("6: in a plan of one room no other", "room 0 0 -> 0", "way 1 0 0 -> unknown", "way 0 0 0 -> 0");
    }

    private static void longestWay() {
        SENTENCES.test("6: over 39 stairs of 500 metres", Sentences.times(40, i -> "room " + i % 2 + " " + (i == 39 ? 2 : i == 0 ? 1 : 0) + " -> " + i),
                Sentences.times(39, i -> "door " + i + " " + (i + 1) + " 500 0 -> " + i), "way 0 2 0 -> 19500", "told 0 -> 39", "told 1 -> 39",
                "told 2 -> 39", Sentences.times(39, i -> "step " + i + " -> " + i), "step 39 -> -1", "step 40 -> -1", "hoses 39 1 -> 19500",
                "hoses 39 100 -> 195", "way 39 1 0 -> 19500", Sentences.times(39, i -> "step " + i + " -> " + (38 - i)), "step 39 -> -1",
                "told 2 -> 0", "trapped 0 -> -1");
    }

    private static void steps() {
        SENTENCES.test("7: range: i is below 0", HOUSE, "step -1 -> range", "step min -> range", "step 0 -> 2");
        SENTENCES.test("7: below 0 before any way", "step -1 -> range", "step min -> range", "step 0 -> -1");
        SENTENCES.test("7: 0 first, from its beginning", HOUSE, "step 0 -> 2", "step 1 -> 1", "step 2 -> 0");
        SENTENCES.test("7: -1 behind it", HOUSE, "step 3 -> -1", "step 4 -> -1", "step 39 -> -1", "step 40 -> -1", "step max -> -1");
        SENTENCES.test("7: -1 of one that is not there", HOUSE, "way 4 2 0 -> -1", "step 0 -> -1", "step 2 -> -1", "step max -> -1", "step -1 -> range");
        SENTENCES.test("7: -1 of the way of no doors", HOUSE, "way 0 2 0 -> 0", "step 0 -> -1", "step max -> -1");
    }

    private static void told() {
        SENTENCES.test("8: unknown: no such what", HOUSE, "told -1 -> unknown", "told 3 -> unknown", "told min -> unknown", "told max -> unknown", WAY_OF_HOUSE);
        SENTENCES.test("8: unknown before any way", "told -1 -> unknown", "told 3 -> unknown", NO_WAY);
        SENTENCES.test("8: of a way that is not there no room", HOUSE, "way 4 2 0 -> -1", NO_WAY, "told 3 -> unknown");
        SENTENCES.test("8: how many doors, how many stairs, the room where it ends", HOUSE, WAY_OF_HOUSE, "way 0 1 0 -> 23", "told 0 -> 3", "told 1 -> 1",
                "told 2 -> 3", "way 1 2 0 -> 10", "told 0 -> 1", "told 1 -> 0", "told 2 -> 0");
    }

    private static void latestWay() {
        SENTENCES.test("7, 8: of the latest way alone", HOUSE, WAY_OF_HOUSE, "way 1 2 0 -> 10", "told 0 -> 1", "step 0 -> 0", "step 1 -> -1",
                "way 4 2 0 -> -1", NO_WAY, "way 3 2 0 -> 23", WAY_OF_HOUSE);
        SENTENCES.test("7, 8: a refused way is not the latest", HOUSE, "way 5 2 0 -> unknown", "way 1 3 0 -> unknown", "way 1 2 256 -> range", WAY_OF_HOUSE);
        SENTENCES.test("7, 8: hoses and trapped are no ways of it", HOUSE, "hoses 1 10 -> 2", "trapped 0 -> 4", WAY_OF_HOUSE);
        SENTENCES.test("7, 8: it is told as it was", HOUSE, "key 7 false -> done", "hazard 0 255 -> done", "door 3 1 1 0 -> 4", WAY_OF_HOUSE);
    }

    private static void hoses() {
        String oneDoor = "room 0 0 -> 0\nroom 0 1 -> 1\ndoor 0 1 100 0 -> 0\n";
        SENTENCES.test("9: as many as the way takes", oneDoor, "hoses 0 100 -> 1", "hoses 0 99 -> 2", "hoses 0 51 -> 2", "hoses 0 50 -> 2",
                "hoses 0 49 -> 3", "hoses 0 34 -> 3", "hoses 0 33 -> 4", "hoses 0 2 -> 50", "hoses 0 1 -> 100");
        SENTENCES.test("9: a metre takes one hose", "room 0 0 -> 0", "room 0 1 -> 1", "door 0 1 1 0 -> 0", "hoses 0 1 -> 1", "hoses 0 100 -> 1");
        SENTENCES.test("9: a metre more than a hose", "room 0 0 -> 0", "room 0 1 -> 1", "door 0 1 101 0 -> 0", "hoses 0 100 -> 2", "hoses 0 1 -> 101");
        SENTENCES.test("9: a riser takes none", oneDoor, "hoses 1 1 -> 0", "hoses 1 100 -> 0");
        SENTENCES.test("9: whatever hazards", oneDoor, "hazard 0 255 -> done", "hazard 1 255 -> done", "hoses 0 100 -> 1");
        SENTENCES.test("9: -1 without one: no riser", THREE_IN_A_ROW, "hoses 0 1 -> -1", "hoses 2 100 -> -1");
        SENTENCES.test("9: -1 without one: no door that is passed", HOUSE, "hoses 4 1 -> -1", "key 30 true -> done", "hoses 4 1 -> 11");
        SENTENCES.test("9: the least way", oneDoor, "room 0 1 -> 2", "door 0 2 99 4 -> 1", "hoses 0 99 -> 2", "key 4 true -> done", "hoses 0 99 -> 1");
    }

    private static void hoseRefusals() {
        SENTENCES.test("9: unknown: no such room", HOUSE, "hoses -1 1 -> unknown", "hoses 5 1 -> unknown", "hoses min 1 -> unknown", "hoses max 1 -> unknown",
                "hoses 0 1 -> 23", "hoses 4 1 -> -1");
        SENTENCES.test("9: range: the length 1 .. 100", HOUSE, "hoses 0 0 -> range", "hoses 0 -1 -> range", "hoses 0 101 -> range", "hoses 0 min -> range",
                "hoses 0 max -> range", "hoses 0 1 -> 23", "hoses 0 100 -> 1");
        SENTENCES.test("9: range, though there is no way", HOUSE, "hoses 4 0 -> range", "hoses 4 101 -> range", "hoses 4 100 -> -1");
        SENTENCES.test("9: unknown before range", HOUSE, "hoses 5 0 -> unknown", "hoses -1 101 -> unknown", WAY_OF_HOUSE);
    }

    private static void trapped() {
        SENTENCES.test("10: range: i is below 0", HOUSE, "trapped -1 -> range", "trapped min -> range", "trapped 0 -> 4");
        SENTENCES.test("10: below 0 in an empty plan", "trapped -1 -> range", "trapped 0 -> -1");
        SENTENCES.test("10: -1 when there are not so many", HOUSE, "trapped 1 -> -1", "trapped 39 -> -1", "trapped 40 -> -1", "trapped max -> -1");
        SENTENCES.test("10: all forty rooms", Sentences.times(40, i -> "room " + i % 20 + " " + i % 2 + " -> " + i),
                Sentences.times(40, i -> "trapped " + i + " -> " + i), "trapped 40 -> -1");
    }

    private static void trappedOnes() {
        SENTENCES.test("10: no outside one", "room 0 2 -> 0", "room 0 2 -> 1", "trapped 0 -> -1", "room 0 0 -> 2", "room 0 2 -> 3", "room 0 1 -> 4",
                "trapped 0 -> 2", "trapped 1 -> 4", "trapped 2 -> -1");
        SENTENCES.test("10: without a way out: the key is not at hand", HOUSE, "key 7 false -> done", "trapped 0 -> 2", "trapped 1 -> 3", "trapped 2 -> 4",
                "trapped 3 -> -1", "key 7 true -> done", "key 30 true -> done", "trapped 0 -> -1");
        SENTENCES.test("10: whatever hazards", HOUSE, Sentences.times(5, room -> "hazard " + room + " 255 -> done"), "trapped 0 -> 4", "trapped 1 -> -1");
        SENTENCES.test("10: joined rooms without an outside one", "room 0 0 -> 0", "room 0 1 -> 1", "door 0 1 1 0 -> 0", "trapped 0 -> 0", "trapped 1 -> 1",
                "trapped 2 -> -1", "room 0 2 -> 2", "trapped 1 -> 1", "door 1 2 1 0 -> 1", "trapped 0 -> -1");
    }
}
