import java.util.List;

/** Each sentence of promises 12 to 15, and of their terms, that names a boundary. */
public final class DetectorsAndPeopleEdgesTest {
    private static final Sentences SENTENCES = new Sentences();
    private static final String HOUSE = Sentences.HOUSE;
    /** HOUSE has the detectors 1 99 and 9 1. */
    private static final String HUNDRED_DETECTORS = HOUSE + Sentences.times(98, i -> "detector 5 " + (i + 1) + " " + i % 5 + " -> done") + "\n";
    private static final String SIXTY_ROWS = HOUSE + Sentences.times(58, i -> "people 4 12 12 999 -> " + (2 + i)) + "\n";

    public static void main(String[] args) {
        detectorPairs();
        detectorRanges();
        detectorRefusals();
        detectorLimit();
        alarms();
        alarmRefusals();
        peopleNumbers();
        peopleRefusals();
        peopleLimit();
        bothHoursThemselves();
        throughMidnight();
        insideFloors();
        insideRefusals();
        SENTENCES.end("DetectorsAndPeopleEdgesTest");
    }

    private static void detectorPairs() {
        SENTENCES.test("12: each pair once", HOUSE, "detector 1 99 1 -> state", "detector 1 99 2 -> state", "detector 9 1 2 -> state", "alarm 1 99 -> 1",
                "alarm 9 1 -> 2", "count 2 -> 2");
        SENTENCES.test("12: another number of the loop is another pair", HOUSE, "detector 1 98 3 -> done", "alarm 1 98 -> 3", "alarm 1 99 -> 1");
        SENTENCES.test("12: the number of another loop is another pair", HOUSE, "detector 2 99 3 -> done", "alarm 2 99 -> 3", "alarm 1 99 -> 1");
        SENTENCES.test("12: loop and number are not changed for each other", HOUSE, "detector 2 7 0 -> done", "alarm 7 2 -> -8", "detector 7 2 1 -> done",
                "alarm 2 7 -> 0", "alarm 7 2 -> 1");
        SENTENCES.test("12: no two pairs are taken for one", HOUSE, "detector 2 1 0 -> done", "detector 1 11 3 -> done", "detector 1 21 4 -> done",
                "detector 8 99 1 -> done", "alarm 2 1 -> 0", "alarm 1 11 -> 3", "alarm 1 21 -> 4", "alarm 8 99 -> 1", "alarm 9 1 -> 2", "alarm 1 99 -> 1");
        SENTENCES.test("12: several detectors of a room", HOUSE, "detector 4 4 1 -> done", "detector 4 5 1 -> done", "alarm 4 4 -> 1", "alarm 4 5 -> 1",
                "count 2 -> 4");
    }

    private static void detectorRanges() {
        SENTENCES.test("12: range: loop 1 .. 9", HOUSE, "detector 0 5 0 -> range", "detector -1 5 0 -> range", "detector 10 5 0 -> range",
                "detector min 5 0 -> range", "detector max 5 0 -> range", "count 2 -> 2", "detector 1 5 0 -> done", "detector 9 5 4 -> done",
                "alarm 1 5 -> 0", "alarm 9 5 -> 4");
        SENTENCES.test("12: range: number 1 .. 99", HOUSE, "detector 5 0 0 -> range", "detector 5 -1 0 -> range", "detector 5 100 0 -> range",
                "detector 5 min 0 -> range", "detector 5 max 0 -> range", "count 2 -> 2", "detector 5 1 0 -> done", "detector 5 99 4 -> done",
                "alarm 5 1 -> 0", "alarm 5 99 -> 4");
        SENTENCES.test("12: range: both", HOUSE, "detector 0 0 0 -> range", "detector 10 100 0 -> range", "count 2 -> 2");
    }

    private static void detectorRefusals() {
        SENTENCES.test("12: unknown: no such room", HOUSE, "detector 5 5 -1 -> unknown", "detector 5 5 5 -> unknown", "detector 5 5 min -> unknown",
                "detector 5 5 max -> unknown", "alarm 5 5 -> -6", "detector 5 5 0 -> done", "detector 5 6 4 -> done", "alarm 5 5 -> 0", "alarm 5 6 -> 4");
        SENTENCES.test("12: unknown before range", HOUSE, "detector 0 5 5 -> unknown", "detector 10 5 -1 -> unknown", "detector 5 0 5 -> unknown",
                "detector 5 100 -1 -> unknown", "detector 0 0 5 -> unknown");
        SENTENCES.test("12: unknown before state", HOUSE, "detector 1 99 5 -> unknown", "detector 9 1 -1 -> unknown", "alarm 1 99 -> 1", "alarm 9 1 -> 2");
        SENTENCES.test("12: a refused detector is not told", HOUSE, "detector 5 5 5 -> unknown", "detector 5 100 1 -> range", "detector 5 5 1 -> done",
                "alarm 5 5 -> 1", "count 2 -> 3");
    }

    private static void detectorLimit() {
        SENTENCES.test("12: no room: there are 100", HUNDRED_DETECTORS, "count 2 -> 100", "alarm 5 98 -> 2", "detector 5 99 0 -> noroom",
                "detector 1 1 0 -> noroom", "count 2 -> 100", "alarm 5 99 -> -6", "alarm 1 1 -> -2");
        SENTENCES.test("12: the hundredth is one like the others", HUNDRED_DETECTORS, "alarm 5 98 -> 2", "detector 5 98 1 -> state", "alarm 5 98 -> 2",
                "alarm 5 1 -> 0", "alarm 1 99 -> 1");
        SENTENCES.test("12: unknown before no room", HUNDRED_DETECTORS, "detector 5 99 5 -> unknown", "detector 5 99 -1 -> unknown");
        SENTENCES.test("12: range before no room", HUNDRED_DETECTORS, "detector 0 99 0 -> range", "detector 10 99 0 -> range", "detector 5 0 0 -> range",
                "detector 5 100 0 -> range");
        SENTENCES.test("12: state before no room", HUNDRED_DETECTORS, "detector 1 99 0 -> state", "detector 5 98 0 -> state", "detector 5 1 0 -> state");
        SENTENCES.test("12: unknown before all others", HUNDRED_DETECTORS, "detector 5 98 5 -> unknown", "detector 0 100 5 -> unknown");
    }

    private static void alarms() {
        SENTENCES.test("13: the detector's room", HOUSE, "alarm 1 99 -> 1", "alarm 9 1 -> 2", "detector 3 50 0 -> done", "alarm 3 50 -> 0");
        SENTENCES.test("13: of a number that is not told -1 less the loop", HOUSE, Sentences.times(9, i -> "alarm " + (i + 1) + " 50 -> " + (-2 - i)),
                "alarm 1 98 -> -2", "alarm 9 2 -> -10", "alarm 9 99 -> -10", "alarm 1 1 -> -2");
        SENTENCES.test("13: an alarm tells no detector", HOUSE, "alarm 5 5 -> -6", "alarm 5 5 -> -6", "count 2 -> 2", "detector 5 5 3 -> done", "alarm 5 5 -> 3");
    }

    private static void alarmRefusals() {
        SENTENCES.test("13: range: loop 1 .. 9", HOUSE, "alarm 0 1 -> range", "alarm -1 1 -> range", "alarm 10 1 -> range", "alarm min 1 -> range",
                "alarm max 1 -> range", "alarm 1 1 -> -2", "alarm 9 1 -> 2");
        SENTENCES.test("13: range: number 1 .. 99", HOUSE, "alarm 1 0 -> range", "alarm 1 -1 -> range", "alarm 1 100 -> range", "alarm 1 min -> range",
                "alarm 1 max -> range", "alarm 1 1 -> -2", "alarm 1 99 -> 1");
        SENTENCES.test("13: range: both", HOUSE, "alarm 0 0 -> range", "alarm 10 100 -> range");
        SENTENCES.test("13: range in an empty plan", "alarm 0 1 -> range", "alarm 1 0 -> range", "alarm 10 1 -> range", "alarm 1 100 -> range");
    }

    private static void peopleNumbers() {
        SENTENCES.test("14: a row of people, its number", HOUSE, "people 0 0 0 0 -> 2", "people 0 0 0 0 -> 3", "people 4 23 23 999 -> 4");
        SENTENCES.test("14: a refused row takes no number", HOUSE, "people 5 0 0 1 -> unknown", "people 0 24 0 1 -> range", "people 0 0 0 1000 -> range",
                "people 0 0 0 1 -> 2");
    }

    private static void peopleRefusals() {
        SENTENCES.test("14: unknown: no such room", HOUSE, "people -1 0 0 1 -> unknown", "people 5 0 0 1 -> unknown", "people min 0 0 1 -> unknown",
                "people max 0 0 1 -> unknown", "people 0 0 0 1 -> 2", "people 4 0 0 1 -> 3");
        SENTENCES.test("14: range: the first hour 0 .. 23", HOUSE, "people 0 -1 5 1 -> range", "people 0 24 5 1 -> range", "people 0 min 5 1 -> range",
                "people 0 max 5 1 -> range", "people 0 0 5 1 -> 2", "people 0 23 5 1 -> 3");
        SENTENCES.test("14: range: the second hour 0 .. 23", HOUSE, "people 0 5 -1 1 -> range", "people 0 5 24 1 -> range", "people 0 5 min 1 -> range",
                "people 0 5 max 1 -> range", "people 0 5 0 1 -> 2", "people 0 5 23 1 -> 3");
        SENTENCES.test("14: range: how many 0 .. 999", HOUSE, "people 0 5 5 -1 -> range", "people 0 5 5 1000 -> range", "people 0 5 5 min -> range",
                "people 0 5 5 max -> range", "people 0 7 7 0 -> 2", "inside 0 7 -> 0", "people 0 7 7 999 -> 3", "inside 0 7 -> 999");
        SENTENCES.test("14: unknown before range", HOUSE, "people 5 24 0 1 -> unknown", "people -1 0 -1 1 -> unknown", "people 5 0 0 1000 -> unknown",
                "people -1 0 0 -1 -> unknown", "people 5 -1 24 1000 -> unknown");
    }

    private static void peopleLimit() {
        SENTENCES.test("14: no room: there are 60", SIXTY_ROWS, "people 4 12 12 1 -> noroom", "people 0 0 23 0 -> noroom", "inside 2 12 -> 57942");
        SENTENCES.test("14: the sixtieth is one like the others", HOUSE, Sentences.times(57, i -> "people 0 0 0 0 -> " + (2 + i)), "people 4 12 12 7 -> 59",
                "inside 2 12 -> 7", "inside -1 12 -> 27", "people 4 12 12 7 -> noroom", "inside 2 12 -> 7");
        SENTENCES.test("14: unknown before no room", SIXTY_ROWS, "people 5 0 0 1 -> unknown", "people -1 0 0 1 -> unknown");
        SENTENCES.test("14: range before no room", SIXTY_ROWS, "people 0 24 0 1 -> range", "people 0 0 -1 1 -> range", "people 0 0 0 1000 -> range",
                "people 0 0 0 -1 -> range");
        SENTENCES.test("14: unknown before range and no room", SIXTY_ROWS, "people 5 24 0 1 -> unknown", "people -1 0 0 1000 -> unknown");
        SENTENCES.test("15: sixty rows of 999", "room 0 0 -> 0", Sentences.times(60, i -> "people 0 0 23 999 -> " + i), "people 0 0 23 1 -> noroom",
                Sentences.times(24, hour -> "inside 0 " + hour + " -> 59940"));
    }

    /** The hours of a day at which a row counts, as "inside" answers them. */
    private static String hoursOf(Integer... there) {
        return Sentences.times(24, hour -> "inside 0 " + hour + " -> " + (List.of(there).contains(hour) ? 5 : 0));
    }

    private static void bothHoursThemselves() {
        SENTENCES.test("15: both hours themselves", "room 0 0 -> 0", "people 0 8 11 5 -> 0", hoursOf(8, 9, 10, 11));
        SENTENCES.test("15: one hour", "room 0 0 -> 0", "people 0 8 8 5 -> 0", hoursOf(8));
        SENTENCES.test("15: the first hour of the day", "room 0 0 -> 0", "people 0 0 0 5 -> 0", hoursOf(0));
        SENTENCES.test("15: the last hour of the day", "room 0 0 -> 0", "people 0 23 23 5 -> 0", hoursOf(23));
        SENTENCES.test("15: the whole day", "room 0 0 -> 0", "people 0 0 23 5 -> 0", Sentences.times(24, hour -> "inside 0 " + hour + " -> 5"));
    }

    private static void throughMidnight() {
        SENTENCES.test("15: through midnight when the second is less", "room 0 0 -> 0", "people 0 22 2 5 -> 0", hoursOf(22, 23, 0, 1, 2));
        SENTENCES.test("15: from the last hour to the first", "room 0 0 -> 0", "people 0 23 0 5 -> 0", hoursOf(23, 0));
        SENTENCES.test("15: less by one is the whole day", "room 0 0 -> 0", "people 0 12 11 5 -> 0", Sentences.times(24, hour -> "inside 0 " + hour + " -> 5"));
        SENTENCES.test("15: less by two leaves one hour out", "room 0 0 -> 0", "people 0 13 11 5 -> 0", "inside 0 11 -> 5", "inside 0 12 -> 0", "inside 0 13 -> 5",
                "inside 0 0 -> 5", "inside 0 23 -> 5");
        SENTENCES.test("15: from 1 to 0", "room 0 0 -> 0", "people 0 1 0 5 -> 0", Sentences.times(24, hour -> "inside 0 " + hour + " -> 5"));
        SENTENCES.test("15: to hour 0 alone on the next day", "room 0 0 -> 0", "people 0 20 0 5 -> 0", hoursOf(20, 21, 22, 23, 0));
    }

    private static void insideFloors() {
        SENTENCES.test("15: on a floor", HOUSE, "inside 0 12 -> 20", "inside 1 12 -> 0", "inside 1 23 -> 3", "inside 0 23 -> 0");
        SENTENCES.test("15: -1: on all", HOUSE, "people 4 12 12 100 -> 2", "people 3 12 12 1000 -> range", "inside -1 12 -> 120", "inside -1 23 -> 3",
                "inside -1 7 -> 0");
        SENTENCES.test("15: the lowest floor and the highest", "room 0 0 -> 0", "room 19 0 -> 1", "people 0 5 5 1 -> 0", "people 1 5 5 10 -> 1", "inside 0 5 -> 1",
                "inside 19 5 -> 10", "inside -1 5 -> 11", "inside 18 5 -> 0", "inside 1 5 -> 0");
        SENTENCES.test("15: floors without rooms have nobody inside", HOUSE, Sentences.times(17, i -> "inside " + (3 + i) + " 12 -> 0"));
        SENTENCES.test("15: several rows of a room", HOUSE, "people 1 17 20 1 -> 2", "inside 0 17 -> 21", "inside 0 18 -> 1", "inside 0 16 -> 20");
    }

    private static void insideRefusals() {
        SENTENCES.test("15: unknown: no such floor", HOUSE, "inside -2 12 -> unknown", "inside 20 12 -> unknown", "inside min 12 -> unknown", "inside max 12 -> unknown",
                "inside -1 12 -> 20", "inside 0 12 -> 20", "inside 19 12 -> 0");
        SENTENCES.test("15: range: the hour 0 .. 23", HOUSE, "inside 1 -1 -> range", "inside 1 24 -> range", "inside 1 min -> range", "inside 1 max -> range",
                "inside -1 -1 -> range", "inside -1 24 -> range", "inside 1 0 -> 3", "inside 1 23 -> 3");
        SENTENCES.test("15: unknown before range", HOUSE, "inside -2 -1 -> unknown", "inside 20 24 -> unknown");
        SENTENCES.test("15: unknown and range in an empty plan", "inside -2 0 -> unknown", "inside 20 0 -> unknown", "inside 0 24 -> range", "inside 19 23 -> 0");
    }
}
