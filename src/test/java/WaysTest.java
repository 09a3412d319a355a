/** Promises 6 to 10: the least way, how it is told, hoses, and who is trapped. */
public final class WaysTest {
    private static final Checks CHECKS = new Checks();

    public static void main(String[] args) {
        wayRefusals();
        leastMetresThenStairsThenRoom();
        toldFromItsEnd();
        wayOfNoDoors();
        hazardsOnTheWay();
        longestWay();
        manyPasses();
        latestWayStays();
        hoses();
        trapped();
        CHECKS.end("WaysTest");
    }

    private static void toldIs(String what, PlanRows x, int stairs, int end, int... doors) {
        CHECKS.same(what + ", doors", doors.length, x.told(0));
        CHECKS.same(what + ", stairs", stairs, x.told(1));
        CHECKS.same(what + ", end", end, x.told(2));
        for (int i = 0; i < doors.length; i++) {
            CHECKS.same(what + ", step " + i, doors[i], x.step(i));
        }
        CHECKS.same(what + ", behind it", -1, x.step(doors.length));
        CHECKS.same(what + ", far behind it", -1, x.step(Integer.MAX_VALUE));
    }

    private static void wayRefusals() {
        PlanRows x = new PlanRows();
        x.room(0, 0);
        x.room(0, 2);
        x.door(0, 1, 7, 0);
        CHECKS.answers("6: a way", 7, () -> x.way(0, 2, 255));
        CHECKS.unknown("6: room -1", () -> x.way(-1, 2, 0));
        CHECKS.unknown("6: room 2", () -> x.way(2, 2, 0));
        CHECKS.unknown("6: kind -1", () -> x.way(1, -1, 0));
        CHECKS.unknown("6: kind 3", () -> x.way(1, 3, 0));
        CHECKS.unknown("6: the kind before the set", () -> x.way(1, 3, 256));
        CHECKS.unknown("6: the room before the set", () -> x.way(2, 2, -1));
        CHECKS.range("6: set -1", () -> x.way(1, 2, -1));
        CHECKS.range("6: set 256", () -> x.way(1, 2, 256));
        CHECKS.range("7: step -1", () -> x.step(-1));
        CHECKS.range("7: the lowest int", () -> x.step(Integer.MIN_VALUE));
        CHECKS.unknown("8: told -1", () -> x.told(-1));
        CHECKS.unknown("8: told 3", () -> x.told(3));
        toldIs("6: a refused way changes nothing", x, 0, 1, 0);
    }

    private static void leastMetresThenStairsThenRoom() {
        PlanRows x = new PlanRows();
        x.room(1, 0);
        x.room(2, 2);
        x.room(1, 0);
        x.room(1, 2);
        x.room(1, 2);
        x.door(0, 1, 10, 0);
        x.door(0, 4, 11, 0);
        CHECKS.answers("6: least metres, though over a stair", 10, () -> x.way(0, 2, 0));
        toldIs("6: least metres", x, 1, 1, 0);
        x.door(0, 2, 4, 0);
        x.door(2, 4, 6, 0);
        CHECKS.answers("6: as many metres", 10, () -> x.way(0, 2, 0));
        toldIs("6: fewest stairs, though more doors and a higher room", x, 0, 4, 2, 3);
        x.door(3, 2, 6, 0);
        CHECKS.answers("6: as many metres and stairs", 10, () -> x.way(0, 2, 0));
        toldIs("6: the lowest room, though a higher door", x, 0, 3, 2, 4);
    }

    private static void toldFromItsEnd() {
        PlanRows x = new PlanRows();
        for (int i = 0; i < 4; i++) {
            x.room(0, 0);
        }
        x.room(0, 1);
        x.door(0, 1, 1, 0);
        x.door(2, 4, 2, 0);
        x.door(1, 4, 2, 0);
        x.door(0, 2, 1, 0);
        x.door(2, 0, 1, 0);
        CHECKS.answers("6: two ways", 3, () -> x.way(0, 1, 0));
        toldIs("6: the lowest door at its end first", x, 0, 4, 3, 1);
        CHECKS.answers("6: to the nearest inner room", 2, () -> x.way(4, 0, 0));
        toldIs("6: of two rooms the lowest, though by a higher door", x, 0, 1, 2);
    }

    private static void wayOfNoDoors() {
        PlanRows x = new PlanRows();
        x.room(0, 0);
        x.room(0, 2);
        x.room(0, 2);
        x.door(0, 1, 7, 0);
        x.door(2, 1, 7, 0);
        x.hazard(2, 8);
        CHECKS.answers("6: no metres", 0, () -> x.way(2, 2, 255));
        toldIs("6: of the kind itself, hazards or not", x, 0, 2);
        CHECKS.answers("6: no riser", -1, () -> x.way(2, 1, 0));
        toldIs("7, 8: no way", x, 0, -1);
    }

    private static void hazardsOnTheWay() {
        PlanRows x = new PlanRows();
        x.room(0, 0);
        x.room(0, 0);
        x.room(0, 2);
        x.door(0, 1, 1, 0);
        x.door(1, 2, 1, 0);
        x.door(0, 2, 50, 3);
        x.hazard(1, 6);
        CHECKS.answers("6: other hazards", 2, () -> x.way(0, 2, 9));
        CHECKS.answers("6: in between", -1, () -> x.way(0, 2, 2));
        CHECKS.answers("6: one may begin there", 1, () -> x.way(1, 2, 2));
        x.key(3, true);
        CHECKS.answers("6: round it", 50, () -> x.way(0, 2, 4));
        toldIs("6: round it", x, 0, 2, 2);
        x.hazard(2, 128);
        CHECKS.answers("6: where it ends", -1, () -> x.way(0, 2, 128));
        x.hazard(2, 0);
        x.room(0, 1);
        x.door(2, 3, 1, 0);
        CHECKS.answers("6: outside rooms are gone through", 51, () -> x.way(0, 1, 2));
    }

    /** Forty rooms in a zigzag of two floors: every door is a stair of 500 metres. */
    private static void longestWay() {
        PlanRows x = new PlanRows();
        for (int i = 0; i < 40; i++) {
            x.room(18 + i % 2, i == 39 ? 1 : i == 0 ? 2 : 0);
        }
        int[] down = new int[39];
        for (int i = 0; i < 39; i++) {
            down[i] = 38 - x.door(i, i + 1, 500, 0);
        }
        CHECKS.answers("6: the longest way up", 19500, () -> x.way(0, 1, 0));
        CHECKS.answers("7: its last door", 38, () -> x.step(38));
        CHECKS.answers("6: the longest way down", 19500, () -> x.way(39, 2, 0));
        toldIs("6: the longest way down", x, 39, 0, down);
        CHECKS.answers("9: its hoses", 19500, () -> x.hoses(0, 1));
        CHECKS.answers("10: nobody trapped", -1, () -> x.trapped(0));
    }

    /** A chain whose doors are numbered against the way, so that each pass over them goes one room on. */
    private static void manyPasses() {
        PlanRows x = new PlanRows();
        for (int i = 0; i < 40; i++) {
            x.room(0, i == 39 ? 2 : 0);
        }
        for (int i = 38; i >= 0; i--) {
            x.door(i, i + 1, 1, 0);
        }
        for (int i = 2; i < 40; i++) {
            x.door(0, i, 2 * i, 0);
        }
        CHECKS.answers("6: along the chain", 39, () -> x.way(0, 2, 0));
        CHECKS.answers("8: over all its doors", 39, () -> x.told(0));
        CHECKS.answers("7: the first one", 38, () -> x.step(0));
        CHECKS.answers("7: the last one", 0, () -> x.step(38));
        CHECKS.answers("10: nobody trapped", -1, () -> x.trapped(0));
    }

    private static void latestWayStays() {
        PlanRows x = new PlanRows();
        x.room(0, 0);
        x.room(1, 2);
        x.room(0, 1);
        x.door(0, 1, 7, 1);
        x.door(0, 2, 7, 0);
        x.key(1, true);
        CHECKS.answers("7: a way", 7, () -> x.way(0, 2, 0));
        x.key(1, false);
        x.hazard(1, 255);
        x.door(0, 1, 1, 0);
        CHECKS.answers("9: hoses are no call of way", 7, () -> x.hoses(0, 1));
        CHECKS.answers("10: nor is trapped", -1, () -> x.trapped(0));
        toldIs("7, 8: the latest way stays as it was told", x, 1, 1, 0);
        CHECKS.answers("6: a new one", 1, () -> x.way(0, 2, 0));
        toldIs("7, 8: the new one", x, 1, 1, 2);
    }

    private static void hoses() {
        PlanRows x = new PlanRows();
        x.room(0, 0);
        x.room(0, 1);
        x.room(0, 0);
        x.room(0, 1);
        x.door(0, 1, 100, 0);
        x.door(0, 3, 99, 5);
        x.hazard(1, 255);
        CHECKS.unknown("9: room -1", () -> x.hoses(-1, 1));
        CHECKS.unknown("9: room 4", () -> x.hoses(4, 1));
        CHECKS.unknown("9: the room before the length", () -> x.hoses(4, 0));
        CHECKS.range("9: length 0", () -> x.hoses(0, 0));
        CHECKS.range("9: length -1", () -> x.hoses(0, -1));
        CHECKS.range("9: length 101", () -> x.hoses(0, 101));
        CHECKS.answers("9: hazards or not, exactly one", 1, () -> x.hoses(0, 100));
        CHECKS.answers("9: a metre too much", 2, () -> x.hoses(0, 99));
        CHECKS.answers("9: exactly two", 2, () -> x.hoses(0, 50));
        CHECKS.answers("9: a rest", 3, () -> x.hoses(0, 49));
        CHECKS.answers("9: of one metre", 100, () -> x.hoses(0, 1));
        CHECKS.answers("9: at the riser", 0, () -> x.hoses(1, 1));
        CHECKS.answers("9: without a way", -1, () -> x.hoses(2, 100));
        x.key(5, true);
        CHECKS.answers("9: a nearer one", 1, () -> x.hoses(0, 99));
    }

    private static void trapped() {
        PlanRows x = new PlanRows();
        x.room(0, 0);
        x.room(0, 1);
        x.room(1, 2);
        x.room(0, 0);
        x.room(5, 2);
        CHECKS.range("10: -1", () -> x.trapped(-1));
        CHECKS.range("10: the lowest int", () -> x.trapped(Integer.MIN_VALUE));
        CHECKS.answers("10: first", 0, () -> x.trapped(0));
        CHECKS.answers("10: a riser too", 1, () -> x.trapped(1));
        CHECKS.answers("10: no outside one", 3, () -> x.trapped(2));
        CHECKS.answers("10: behind it", -1, () -> x.trapped(3));
        CHECKS.answers("10: far behind it", -1, () -> x.trapped(Integer.MAX_VALUE));
        x.door(1, 2, 1, 6);
        x.door(0, 1, 1, 0);
        CHECKS.answers("10: a locked door is no way", 0, () -> x.trapped(0));
        x.key(6, true);
        x.hazard(1, 255);
        x.hazard(2, 255);
        CHECKS.answers("10: over two doors, hazards or not", 3, () -> x.trapped(0));
        CHECKS.answers("10: no more", -1, () -> x.trapped(1));
        x.key(6, false);
        CHECKS.answers("10: locked in again", 1, () -> x.trapped(1));
    }
}
