/** Each sentence of promises 16 to 20, and of their terms, that names a boundary. */
public final class WindowsAndLooksEdgesTest {
    private static final Sentences SENTENCES = new Sentences();
    private static final String HOUSE = Sentences.HOUSE;
    private static final String THIRTY_WINDOWS = HOUSE + Sentences.times(28, i -> "window 4 0 0 " + i + " -> " + (2 + i)) + "\n";
    private static final String AT_NOTHING = "room 0 0 -> 0\nwindow 0 0 0 0 -> 0\n";

    public static void main(String[] args) {
        windowNumbers();
        windowRefusals();
        windowLimit();
        notAboveTheLength();
        heightNotBelowZero();
        farAway();
        reachesRefusals();
        ladders();
        noLadder();
        ladderRefusals();
        looks();
        lookRefusals();
        old();
        SENTENCES.end("WindowsAndLooksEdgesTest");
    }

    private static void windowNumbers() {
        SENTENCES.test("16: one more window, its number", HOUSE, "window 0 0 0 0 -> 2", "window 0 0 0 0 -> 3", "count 3 -> 4");
        SENTENCES.test("16: a refused window takes no number", HOUSE, "window 5 0 0 0 -> unknown", "window 0 200001 0 0 -> range", "window 0 1 2 3 -> 2",
                "count 3 -> 3", "ladder 2 1 2 3 -> 1", "ladder 3 0 0 0 -> unknown");
    }

    private static void windowRefusals() {
        SENTENCES.test("16: unknown: no such room", HOUSE, "window -1 0 0 0 -> unknown", "window 5 0 0 0 -> unknown", "window min 0 0 0 -> unknown",
                "window max 0 0 0 -> unknown", "window 0 0 0 0 -> 2", "window 4 0 0 0 -> 3");
        SENTENCES.test("16: range: x", HOUSE, "window 0 -200001 0 0 -> range", "window 0 200001 0 0 -> range", "window 0 min 0 0 -> range",
                "window 0 max 0 0 -> range", "window 0 -200000 0 0 -> 2", "window 0 200000 0 0 -> 3", "ladder 2 -200000 0 0 -> 1", "ladder 3 200000 0 0 -> 1");
        SENTENCES.test("16: range: y", HOUSE, "window 0 0 -200001 0 -> range", "window 0 0 200001 0 -> range", "window 0 0 min 0 -> range",
                "window 0 0 max 0 -> range", "window 0 0 -200000 0 -> 2", "window 0 0 200000 0 -> 3", "ladder 2 0 -200000 0 -> 1", "ladder 3 0 200000 0 -> 1");
        SENTENCES.test("16: range: z", HOUSE, "window 0 0 0 -200001 -> range", "window 0 0 0 200001 -> range", "window 0 0 0 min -> range",
                "window 0 0 0 max -> range", "window 0 0 0 -200000 -> 2", "window 0 0 0 200000 -> 3", "ladder 2 0 0 -200000 -> 1", "ladder 3 0 0 200000 -> 1");
        SENTENCES.test("16: unknown before range", HOUSE, "window 5 200001 0 0 -> unknown", "window -1 0 -200001 0 -> unknown", "window 5 0 0 200001 -> unknown",
                "window 5 min max min -> unknown");
    }

    private static void windowLimit() {
        SENTENCES.test("16: no room: there are 30", THIRTY_WINDOWS, "count 3 -> 30", "window 0 0 0 0 -> noroom", "window 4 200000 200000 200000 -> noroom",
                "count 3 -> 30", "ladder 29 0 0 0 -> 27", "ladder 30 0 0 0 -> unknown");
        SENTENCES.test("16: the thirtieth is one like the others", THIRTY_WINDOWS, "reaches 29 0 0 0 27 -> true", "reaches 29 0 0 0 26 -> false",
                "ladder 29 0 0 28 -> -1", "ladder 28 0 0 0 -> 26");
        SENTENCES.test("16: unknown before no room", THIRTY_WINDOWS, "window 5 0 0 0 -> unknown", "window -1 0 0 0 -> unknown");
        SENTENCES.test("16: range before no room", THIRTY_WINDOWS, "window 0 200001 0 0 -> range", "window 0 0 -200001 0 -> range", "window 0 0 0 200001 -> range");
        SENTENCES.test("16: unknown before range and no room", THIRTY_WINDOWS, "window 5 200001 0 0 -> unknown", "window -1 0 0 -200001 -> unknown");
    }

    private static void notAboveTheLength() {
        SENTENCES.test("17: reaches when the square is not above that of the length", AT_NOTHING, "reaches 0 2 3 -6 7 -> true", "reaches 0 2 3 -6 6 -> false",
                "reaches 0 2 3 -6 8 -> true", "reaches 0 -2 -3 -6 7 -> true", "reaches 0 -2 -3 -6 6 -> false");
        SENTENCES.test("17: one above the square", AT_NOTHING, "reaches 0 1 7 0 7 -> false", "reaches 0 1 7 0 8 -> true");
        SENTENCES.test("17: along each line", AT_NOTHING, "reaches 0 5 0 0 5 -> true", "reaches 0 5 0 0 4 -> false", "reaches 0 0 5 0 5 -> true",
                "reaches 0 0 5 0 4 -> false", "reaches 0 0 0 -5 5 -> true", "reaches 0 0 0 -5 4 -> false", "reaches 0 -5 0 0 5 -> true", "reaches 0 -5 0 0 4 -> false",
                "reaches 0 0 -5 0 5 -> true", "reaches 0 0 -5 0 4 -> false");
        SENTENCES.test("17: at its own point", AT_NOTHING, "reaches 0 0 0 0 1 -> true", "reaches 0 0 0 0 200000 -> true");
        SENTENCES.test("17: each window at its own point", HOUSE, "reaches 0 0 0 0 3000 -> true", "reaches 0 0 0 0 2999 -> false", "reaches 1 1000 2000 0 6000 -> true",
                "reaches 1 1000 2000 0 5999 -> false", "reaches 1 0 0 0 6403 -> false", "reaches 1 0 0 0 6404 -> true");
    }

    private static void heightNotBelowZero() {
        SENTENCES.test("17: its height above that point is not below 0", AT_NOTHING, "reaches 0 0 0 -1 1 -> true", "reaches 0 0 0 0 1 -> true", "reaches 0 0 0 1 1 -> false",
                "reaches 0 0 0 1 200000 -> false", "reaches 0 3 4 0 5 -> true", "reaches 0 3 4 1 200000 -> false", "reaches 0 0 0 200000 200000 -> false");
        SENTENCES.test("18: nor has one from above a length", AT_NOTHING, "ladder 0 0 0 1 -> -1", "ladder 0 0 0 0 -> 1", "ladder 0 0 0 -1 -> 1", "ladder 0 0 0 200000 -> -1");
    }

    private static void farAway() {
        SENTENCES.test("17: the longest ladder", AT_NOTHING, "reaches 0 200000 0 0 200000 -> true", "reaches 0 200000 0 0 199999 -> false",
                "reaches 0 200000 1 0 200000 -> false", "reaches 0 199999 632 0 200000 -> true", "reaches 0 199999 633 0 200000 -> false",
                "reaches 0 120000 160000 0 200000 -> true", "reaches 0 120000 160001 0 200000 -> false", "reaches 0 0 0 -200000 200000 -> true");
        SENTENCES.test("17: from one corner to the other", "room 0 0 -> 0", "window 0 200000 200000 200000 -> 0", "window 0 -200000 -200000 -200000 -> 1",
                "reaches 0 -200000 -200000 -200000 200000 -> false", "reaches 1 200000 200000 -200000 200000 -> false", "reaches 1 200000 200000 200000 200000 -> false",
                "ladder 0 -200000 -200000 -200000 -> -1", "ladder 1 200000 200000 -200000 -> -1");
        SENTENCES.test("17: squares beyond an int do not wrap round", AT_NOTHING, "reaches 0 65536 0 0 1 -> false", "reaches 0 46341 0 0 46340 -> false",
                "reaches 0 46341 0 0 46341 -> true", "reaches 0 1 0 0 65536 -> true", "reaches 0 1 0 0 46341 -> true", "reaches 0 131072 131072 -131072 200000 -> false");
    }

    private static void reachesRefusals() {
        SENTENCES.test("17: unknown: no such window", HOUSE, "reaches -1 0 0 0 1 -> unknown", "reaches 2 0 0 0 1 -> unknown", "reaches min 0 0 0 1 -> unknown",
                "reaches max 0 0 0 1 -> unknown", "reaches 0 0 0 0 1 -> false", "reaches 1 0 0 0 1 -> false");
        SENTENCES.test("17: range: x", HOUSE, "reaches 0 -200001 0 0 1 -> range", "reaches 0 200001 0 0 1 -> range", "reaches 0 min 0 0 1 -> range",
                "reaches 0 max 0 0 1 -> range", "reaches 0 -200000 0 0 1 -> false", "reaches 0 200000 0 0 1 -> false");
        SENTENCES.test("17: range: y", HOUSE, "reaches 0 0 -200001 0 1 -> range", "reaches 0 0 200001 0 1 -> range", "reaches 0 0 min 0 1 -> range",
                "reaches 0 0 max 0 1 -> range", "reaches 0 0 -200000 0 1 -> false", "reaches 0 0 200000 0 1 -> false");
        SENTENCES.test("17: range: z", HOUSE, "reaches 0 0 0 -200001 1 -> range", "reaches 0 0 0 200001 1 -> range", "reaches 0 0 0 min 1 -> range",
                "reaches 0 0 0 max 1 -> range", "reaches 0 0 0 -200000 1 -> false", "reaches 0 0 0 200000 1 -> false");
        SENTENCES.test("17: range: the length 1 .. 200,000", HOUSE, "reaches 0 0 0 3000 0 -> range", "reaches 0 0 0 3000 -1 -> range", "reaches 0 0 0 3000 200001 -> range",
                "reaches 0 0 0 3000 min -> range", "reaches 0 0 0 3000 max -> range", "reaches 0 0 0 3000 1 -> true", "reaches 0 0 0 3000 200000 -> true");
        SENTENCES.test("17: unknown before range", HOUSE, "reaches 2 200001 0 0 1 -> unknown", "reaches -1 0 -200001 0 1 -> unknown", "reaches 2 0 0 200001 1 -> unknown",
                "reaches -1 0 0 0 0 -> unknown", "reaches 2 0 0 0 200001 -> unknown", "reaches 2 min max min 0 -> unknown");
        SENTENCES.test("17: range, though it is above the window", HOUSE, "reaches 0 0 0 4000 0 -> range", "reaches 0 200001 0 4000 1 -> range");
    }

    private static void ladders() {
        SENTENCES.test("18: the least length in whole millimetres", AT_NOTHING, "ladder 0 2 3 -6 -> 7", "ladder 0 2 3 -7 -> 8", "ladder 0 1 7 0 -> 8", "ladder 0 1 0 0 -> 1",
                "ladder 0 1 1 0 -> 2", "ladder 0 1 1 -1 -> 2", "ladder 0 2 0 0 -> 2", "ladder 0 2 1 0 -> 3", "ladder 0 -3 -4 0 -> 5");
        SENTENCES.test("18: at its own point the shortest ladder", AT_NOTHING, "ladder 0 0 0 0 -> 1");
        SENTENCES.test("18: squares beyond an int", AT_NOTHING, "ladder 0 46341 0 0 -> 46341", "ladder 0 65536 0 0 -> 65536", "ladder 0 65536 1 0 -> 65537",
                "ladder 0 131072 0 0 -> 131072", "ladder 0 131071 0 0 -> 131071", "ladder 0 131072 1 0 -> 131073", "ladder 0 100000 100000 -100000 -> 173206");
        SENTENCES.test("18: each window at its own point", HOUSE, "ladder 0 0 0 0 -> 3000", "ladder 1 1000 2000 0 -> 6000", "ladder 1 0 0 0 -> 6404");
    }

    private static void noLadder() {
        SENTENCES.test("18: -1 when none up to 200,000 does", AT_NOTHING, "ladder 0 200000 0 0 -> 200000", "ladder 0 199999 0 0 -> 199999", "ladder 0 200000 1 0 -> -1",
                "ladder 0 199999 632 0 -> 200000", "ladder 0 199999 633 0 -> -1", "ladder 0 0 0 -200000 -> 200000", "ladder 0 0 1 -200000 -> -1",
                "ladder 0 120000 160000 0 -> 200000", "ladder 0 -120000 -160001 0 -> -1");
    }

    private static void ladderRefusals() {
        SENTENCES.test("18: unknown: no such window", HOUSE, "ladder -1 0 0 0 -> unknown", "ladder 2 0 0 0 -> unknown", "ladder min 0 0 0 -> unknown",
                "ladder max 0 0 0 -> unknown", "ladder 0 0 0 0 -> 3000", "ladder 1 1000 2000 6000 -> 1");
        SENTENCES.test("18: range: x", HOUSE, "ladder 0 -200001 0 0 -> range", "ladder 0 200001 0 0 -> range", "ladder 0 min 0 0 -> range", "ladder 0 max 0 0 -> range",
                "ladder 0 -200000 0 3000 -> 200000", "ladder 0 200000 0 3000 -> 200000");
        SENTENCES.test("18: range: y", HOUSE, "ladder 0 0 -200001 0 -> range", "ladder 0 0 200001 0 -> range", "ladder 0 0 min 0 -> range", "ladder 0 0 max 0 -> range",
                "ladder 0 0 -200000 3000 -> 200000", "ladder 0 0 200000 3000 -> 200000");
        SENTENCES.test("18: range: z", HOUSE, "ladder 0 0 0 -200001 -> range", "ladder 0 0 0 200001 -> range", "ladder 0 0 0 min -> range", "ladder 0 0 0 max -> range",
                "ladder 0 0 0 -197000 -> 200000", "ladder 0 0 0 -197001 -> -1", "ladder 0 0 0 -200000 -> -1", "ladder 0 0 0 200000 -> -1");
        SENTENCES.test("18: unknown before range", HOUSE, "ladder 2 200001 0 0 -> unknown", "ladder -1 0 -200001 0 -> unknown", "ladder 2 0 0 200001 -> unknown",
                "ladder 2 min max min -> unknown");
    }

    private static void looks() {
        SENTENCES.test("19: the plan is looked at on a day, with a term", HOUSE, "old 110 -> false", "old 111 -> true", "look 20 5 -> done", "old 25 -> false", "old 26 -> true");
        SENTENCES.test("19: on the day of the latest look again", HOUSE, "look 10 3 -> done", "old 13 -> false", "old 14 -> true", "look 10 4 -> done", "old 14 -> false");
        SENTENCES.test("19: range: the day 0 .. 99,999", "look -1 5 -> range", "look min 5 -> range", "look 100000 5 -> range", "look max 5 -> range", "old 365 -> false",
                "old 366 -> true", "look 0 5 -> done", "old 5 -> false", "old 6 -> true", "look 99999 5 -> done", "old 99999 -> false", "look 99999 6 -> done");
        SENTENCES.test("19: range: the term 1 .. 10,000", HOUSE, "look 10 0 -> range", "look 10 -1 -> range", "look 10 10001 -> range", "look 10 min -> range",
                "look 10 max -> range", "old 110 -> false", "old 111 -> true", "look 10 1 -> done", "old 11 -> false", "old 12 -> true", "look 10 10000 -> done",
                "old 10010 -> false", "old 10011 -> true");
        SENTENCES.test("19: range: the day is below that of the latest look", HOUSE, "look 9 100 -> range", "look 0 100 -> range", "look 10 100 -> done",
                "look 11 100 -> done", "look 10 100 -> range", "look 99999 1 -> done", "look 99998 1 -> range", "old 99999 -> false");
    }

    private static void lookRefusals() {
        SENTENCES.test("19: a good day with a bad term is no look", HOUSE, "look 50 0 -> range", "look 50 10001 -> range", "look 10 100 -> done", "old 110 -> false",
                "old 111 -> true");
        SENTENCES.test("19: a bad day with a good term leaves the term", HOUSE, "look 9 1 -> range", "look -1 1 -> range", "look 100000 1 -> range", "old 110 -> false",
                "old 111 -> true");
        SENTENCES.test("19: a bad day with a bad term", HOUSE, "look 9 0 -> range", "look 100000 10001 -> range", "look -1 -1 -> range", "old 110 -> false", "old 111 -> true");
    }

    private static void old() {
        SENTENCES.test("20: old when more than the term went by", "look 1000 30 -> done", "old 1000 -> false", "old 1001 -> false", "old 1030 -> false", "old 1031 -> true",
                "old 99999 -> true");
        SENTENCES.test("20: the shortest term", "look 1000 1 -> done", "old 1001 -> false", "old 1002 -> true");
        SENTENCES.test("20: the longest term", "look 89998 10000 -> done", "old 99998 -> false", "old 99999 -> true", "look 89999 10000 -> done", "old 99999 -> false");
        SENTENCES.test("20: no plan is old before its latest look", "look 1000 1 -> done", "old 999 -> false", "old 0 -> false", "look 99999 1 -> done", "old 0 -> false");
        SENTENCES.test("20: range: the day 0 .. 99,999", HOUSE, "old -1 -> range", "old 100000 -> range", "old min -> range", "old max -> range", "old 0 -> false",
                "old 99999 -> true");
    }
}
