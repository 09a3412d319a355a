/** Promises 12 to 15: detectors and alarms, rows of people and who is inside. */
public final class DetectorsAndPeopleTest {
    private static final Checks CHECKS = new Checks();

    public static void main(String[] args) {
        detectors();
        hundredDetectors();
        peopleRefusals();
        sixtyRows();
        insideByHours();
        insideByFloors();
        CHECKS.end("DetectorsAndPeopleTest");
    }

    private static PlanRows threeRooms() {
        PlanRows x = new PlanRows();
        x.room(0, 0);
        x.room(19, 2);
        x.room(0, 1);
        return x;
    }

    private static void detectors() {
        PlanRows x = threeRooms();
        CHECKS.unknown("12: room -1", () -> x.detector(1, 1, -1));
        CHECKS.unknown("12: room 3", () -> x.detector(1, 1, 3));
        CHECKS.unknown("12: the room before the loop", () -> x.detector(0, 1, 3));
        CHECKS.range("12: loop 0", () -> x.detector(0, 1, 0));
        CHECKS.range("12: loop 10", () -> x.detector(10, 1, 0));
        CHECKS.range("12: number 0", () -> x.detector(1, 0, 0));
        CHECKS.range("12: number 100", () -> x.detector(1, 100, 0));
        CHECKS.answers("12: refused ones are not counted", 0, () -> x.count(2));
        CHECKS.answers("13: not told", -2, () -> x.alarm(1, 99));
        CHECKS.done("12: the lowest loop, the highest number", () -> x.detector(1, 99, 2));
        CHECKS.done("12: the highest loop, the lowest number", () -> x.detector(9, 1, 0));
        CHECKS.state("12: told", () -> x.detector(1, 99, 1));
        CHECKS.unknown("12: the room before being told", () -> x.detector(1, 99, 3));
        CHECKS.answers("13: what is refused changes nothing", 2, () -> x.alarm(1, 99));
        CHECKS.answers("13: the other one", 0, () -> x.alarm(9, 1));
        CHECKS.answers("13: loop 9 without it", -10, () -> x.alarm(9, 99));
        CHECKS.answers("13: loop 1 without it", -2, () -> x.alarm(1, 1));
        CHECKS.range("13: loop 0", () -> x.alarm(0, 1));
        CHECKS.range("13: loop 10", () -> x.alarm(10, 1));
        CHECKS.range("13: number 0", () -> x.alarm(1, 0));
        CHECKS.range("13: number 100", () -> x.alarm(1, 100));
    }

    private static void hundredDetectors() {
        PlanRows x = threeRooms();
        for (int number = 1; number <= 99; number++) {
            x.detector(1, number, number % 3);
        }
        CHECKS.done("12: the hundredth", () -> x.detector(2, 1, 1));
        CHECKS.noRoom("12: one more", () -> x.detector(2, 2, 1));
        CHECKS.state("12: told before no room", () -> x.detector(2, 1, 1));
        CHECKS.range("12: the number before no room", () -> x.detector(2, 100, 1));
        CHECKS.unknown("12: the room before no room", () -> x.detector(2, 2, 3));
        CHECKS.answers("12: still a hundred", 100, () -> x.count(2));
        CHECKS.answers("13: the first", 1, () -> x.alarm(1, 1));
        CHECKS.answers("13: one of them", 2, () -> x.alarm(1, 98));
        CHECKS.answers("13: the last", 1, () -> x.alarm(2, 1));
        CHECKS.answers("13: the refused one", -3, () -> x.alarm(2, 2));
    }

    private static void peopleRefusals() {
        PlanRows x = threeRooms();
        CHECKS.unknown("14: room -1", () -> x.people(-1, 0, 0, 0));
        CHECKS.unknown("14: room 3", () -> x.people(3, 0, 0, 0));
        CHECKS.unknown("14: the room before the hours", () -> x.people(3, 24, 0, 0));
        CHECKS.range("14: from -1", () -> x.people(0, -1, 0, 5));
        CHECKS.range("14: from 24", () -> x.people(0, 24, 0, 5));
        CHECKS.range("14: to -1", () -> x.people(0, 0, -1, 5));
        CHECKS.range("14: to 24", () -> x.people(0, 0, 24, 5));
        CHECKS.range("14: -1 people", () -> x.people(0, 0, 0, -1));
        CHECKS.range("14: 1000 people", () -> x.people(0, 0, 0, 1000));
        CHECKS.answers("14: refused rows are not there", 0, () -> x.inside(-1, 0));
        CHECKS.answers("14: first", 0, () -> x.people(0, 0, 23, 0));
        CHECKS.answers("14: second", 1, () -> x.people(2, 23, 0, 999));
        CHECKS.answers("14: the same again", 2, () -> x.people(2, 23, 0, 999));
        CHECKS.answers("15: rows add up", 1998, () -> x.inside(0, 0));
    }

    private static void sixtyRows() {
        PlanRows x = threeRooms();
        for (int row = 0; row < 60; row++) {
            CHECKS.same("14: row " + row, row, x.people(1, 7, 7, 999));
        }
        CHECKS.noRoom("14: one more", () -> x.people(1, 7, 7, 1));
        CHECKS.unknown("14: the room before no room", () -> x.people(3, 7, 7, 1));
        CHECKS.range("14: how many before no room", () -> x.people(1, 7, 7, 1000));
        CHECKS.answers("15: all of them", 59940, () -> x.inside(19, 7));
        CHECKS.answers("15: only that hour", 0, () -> x.inside(19, 8));
    }

    private static void insideByHours() {
        for (int from = 0; from < 24; from++) {
            for (int to = 0; to < 24; to++) {
                PlanRows x = threeRooms();
                x.people(0, from, to, 3);
                boolean[] there = hoursOf(from, to);
                for (int hour = 0; hour < 24; hour++) {
                    CHECKS.same("15: from " + from + " to " + to + " at " + hour, there[hour] ? 3 : 0, x.inside(0, hour));
                }
            }
        }
    }

    private static boolean[] hoursOf(int from, int to) {
        boolean[] there = new boolean[24];
        for (int hour = from; hour != to; hour = (hour + 1) % 24) {
            there[hour] = true;
        }
        there[to] = true;
        return there;
    }

    private static void insideByFloors() {
        PlanRows x = threeRooms();
        x.people(0, 8, 17, 1);
        x.people(1, 8, 17, 10);
        x.people(2, 17, 20, 100);
        CHECKS.answers("15: two rooms of a floor", 101, () -> x.inside(0, 17));
        CHECKS.answers("15: floor 19, an outside room too", 10, () -> x.inside(19, 17));
        CHECKS.answers("15: a floor without rooms", 0, () -> x.inside(5, 17));
        CHECKS.answers("15: all", 111, () -> x.inside(-1, 17));
        CHECKS.answers("15: all before", 11, () -> x.inside(-1, 16));
        CHECKS.unknown("15: floor -2", () -> x.inside(-2, 0));
        CHECKS.unknown("15: floor 20", () -> x.inside(20, 0));
        CHECKS.unknown("15: the floor before the hour", () -> x.inside(20, 24));
        CHECKS.range("15: hour -1", () -> x.inside(-1, -1));
        CHECKS.range("15: hour 24", () -> x.inside(0, 24));
    }
}
