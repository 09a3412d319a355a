/** Promises 16 to 20: windows and ladders, looks at the plan and when it is old. */
public final class WindowsAndLooksTest {
    private static final Checks CHECKS = new Checks();

    public static void main(String[] args) {
        windowRefusals();
        thirtyWindows();
        ladderRefusals();
        exactReach();
        heights();
        farthest();
        leastLengths();
        looks();
        lookRefusals();
        CHECKS.end("WindowsAndLooksTest");
    }

    private static PlanRows oneRoom() {
        PlanRows x = new PlanRows();
        x.room(0, 0);
        return x;
    }

    private static void windowRefusals() {
        PlanRows x = oneRoom();
        CHECKS.unknown("16: room -1", () -> x.window(-1, 0, 0, 0));
        CHECKS.unknown("16: room 1", () -> x.window(1, 0, 0, 0));
        CHECKS.unknown("16: the room before the point", () -> x.window(1, 200001, 0, 0));
        int[] outside = {-200001, 200001, Integer.MIN_VALUE, Integer.MAX_VALUE};
        for (int far : outside) {
            CHECKS.range("16: x " + far, () -> x.window(0, far, 0, 0));
            CHECKS.range("16: y " + far, () -> x.window(0, 0, far, 0));
            CHECKS.range("16: z " + far, () -> x.window(0, 0, 0, far));
        }
        CHECKS.answers("16: refused ones are not counted", 0, () -> x.count(3));
        CHECKS.answers("16: first", 0, () -> x.window(0, -200000, -200000, -200000));
        CHECKS.answers("16: second", 1, () -> x.window(0, 200000, 200000, 200000));
        CHECKS.answers("16: the same point again", 2, () -> x.window(0, 200000, 200000, 200000));
    }

    private static void thirtyWindows() {
        PlanRows x = oneRoom();
        for (int i = 0; i < 30; i++) {
            CHECKS.same("16: window " + i, i, x.window(0, 0, 0, 100 + i));
        }
        CHECKS.noRoom("16: one more", () -> x.window(0, 0, 0, 0));
        CHECKS.unknown("16: the room before no room", () -> x.window(1, 0, 0, 0));
        CHECKS.range("16: the point before no room", () -> x.window(0, 0, 0, 200001));
        CHECKS.answers("16: still thirty", 30, () -> x.count(3));
        for (int i = 0; i < 30; i++) {
            CHECKS.same("18: window " + i, 100 + i, x.ladder(i, 0, 0, 0));
        }
    }

    private static void ladderRefusals() {
        PlanRows x = oneRoom();
        x.window(0, 0, 0, 10);
        CHECKS.unknown("17: window -1", () -> x.reaches(-1, 0, 0, 0, 1));
        CHECKS.unknown("17: window 1", () -> x.reaches(1, 0, 0, 0, 1));
        CHECKS.unknown("17: the window before the length", () -> x.reaches(1, 0, 0, 0, 0));
        CHECKS.range("17: length 0", () -> x.reaches(0, 0, 0, 0, 0));
        CHECKS.range("17: length -10", () -> x.reaches(0, 0, 0, 0, -10));
        CHECKS.range("17: length 200001", () -> x.reaches(0, 0, 0, 0, 200001));
        CHECKS.unknown("18: window -1", () -> x.ladder(-1, 0, 0, 0));
        CHECKS.unknown("18: window 1", () -> x.ladder(1, 0, 0, 0));
        CHECKS.unknown("18: the window before the point", () -> x.ladder(1, 200001, 0, 0));
        int[] outside = {-200001, 200001, Integer.MIN_VALUE, Integer.MAX_VALUE};
        for (int far : outside) {
            CHECKS.range("17: x " + far, () -> x.reaches(0, far, 0, 0, 1));
            CHECKS.range("17: y " + far, () -> x.reaches(0, 0, far, 0, 1));
            CHECKS.range("17: z " + far, () -> x.reaches(0, 0, 0, far, 1));
            CHECKS.range("18: x " + far, () -> x.ladder(0, far, 0, 0));
            CHECKS.range("18: y " + far, () -> x.ladder(0, 0, far, 0));
            CHECKS.range("18: z " + far, () -> x.ladder(0, 0, 0, far));
        }
    }

    private static void exactReach() {
        PlanRows x = oneRoom();
        x.window(0, -100000, 50000, 70000);
        CHECKS.answers("17: 2, 3, 6: exactly 7", true, () -> x.reaches(0, -120000, 80000, 10000, 70000));
        CHECKS.answers("17: one less", false, () -> x.reaches(0, -120000, 80000, 10000, 69999));
        CHECKS.answers("17: a millimetre farther", false, () -> x.reaches(0, -120001, 80000, 10000, 70000));
        CHECKS.answers("18: exactly 7", 70000, () -> x.ladder(0, -120000, 80000, 10000));
        CHECKS.answers("18: a millimetre farther", 70001, () -> x.ladder(0, -120001, 80000, 10000));
        CHECKS.answers("18: a millimetre nearer", 70000, () -> x.ladder(0, -119999, 80000, 10000));
    }

    private static void heights() {
        PlanRows x = oneRoom();
        x.window(0, 0, 0, -5);
        CHECKS.answers("17: at its height", true, () -> x.reaches(0, 3, 4, -5, 5));
        CHECKS.answers("17: above it", false, () -> x.reaches(0, 0, 0, -4, 200000));
        CHECKS.answers("17: at its point", true, () -> x.reaches(0, 0, 0, -5, 1));
        CHECKS.answers("18: at its point", 1, () -> x.ladder(0, 0, 0, -5));
        CHECKS.answers("18: above it", -1, () -> x.ladder(0, 0, 0, -4));
        CHECKS.answers("18: below it", 1, () -> x.ladder(0, 0, 0, -6));
    }

    private static void farthest() {
        PlanRows x = oneRoom();
        x.window(0, 200000, 200000, 200000);
        x.window(0, -200000, -200000, -200000);
        CHECKS.answers("17: exactly the longest", true, () -> x.reaches(0, 0, 200000, 200000, 200000));
        CHECKS.answers("17: not the next", false, () -> x.reaches(0, 0, 200000, 200000, 199999));
        CHECKS.answers("18: exactly the longest", 200000, () -> x.ladder(0, 0, 200000, 200000));
        CHECKS.answers("18: a millimetre aside", -1, () -> x.ladder(0, 0, 199999, 200000));
        CHECKS.answers("18: a millimetre too far", -1, () -> x.ladder(0, -1, 200000, 200000));
        CHECKS.answers("17: from corner to corner", false, () -> x.reaches(0, -200000, -200000, -200000, 200000));
        CHECKS.answers("18: from corner to corner", -1, () -> x.ladder(0, -200000, -200000, -200000));
        CHECKS.answers("18: from above", -1, () -> x.ladder(1, 200000, 200000, 200000));
        // 46,341 squared is more than the highest int, 65,536 squared is 0 when it wraps round.
        CHECKS.answers("17: squares do not wrap round", false, () -> x.reaches(0, 200000, 134464, 200000, 46341));
        CHECKS.answers("18: squares do not wrap round", 65536, () -> x.ladder(0, 200000, 134464, 200000));
    }

    private static void leastLengths() {
        PlanRows x = oneRoom();
        x.window(0, 0, 0, 0);
        for (int d = 1; d <= 200000; d = d * 3 / 2 + 1) {
            int length = x.ladder(0, d, d / 3, -d / 7);
            long square = (long) d * d + (long) (d / 3) * (d / 3) + (long) (d / 7) * (d / 7);
            boolean isFar = square > 200000L * 200000L;
            boolean isLeast = (long) length * length >= square && (long) (length - 1) * (length - 1) < square;
            CHECKS.same("18: " + d, true, isFar ? length == -1 : isLeast);
        }
    }

    private static void looks() {
        PlanRows x = new PlanRows();
        CHECKS.answers("20: on the day itself", false, () -> x.old(0));
        CHECKS.done("19: day 100, a term of 1", () -> x.look(100, 1));
        CHECKS.answers("20: one day later", false, () -> x.old(101));
        CHECKS.answers("20: two days later", true, () -> x.old(102));
        CHECKS.answers("20: before the look", false, () -> x.old(0));
        CHECKS.done("19: the same day, a longer term", () -> x.look(100, 10000));
        CHECKS.answers("20: the longest term", false, () -> x.old(10100));
        CHECKS.answers("20: a day more", true, () -> x.old(10101));
        CHECKS.done("19: the last day", () -> x.look(99999, 1));
        CHECKS.answers("20: the last day", false, () -> x.old(99999));
    }

    private static void lookRefusals() {
        PlanRows x = new PlanRows();
        CHECKS.range("19: day -1", () -> x.look(-1, 5));
        CHECKS.range("19: day 100000", () -> x.look(100000, 5));
        CHECKS.range("19: term 0", () -> x.look(7, 0));
        CHECKS.range("19: term 10001", () -> x.look(7, 10001));
        CHECKS.answers("19: what is refused changes nothing", false, () -> x.old(365));
        CHECKS.answers("19: nor the day", true, () -> x.old(366));
        x.look(50, 5);
        CHECKS.range("19: below the latest look", () -> x.look(49, 9));
        CHECKS.answers("19: the term stays", true, () -> x.old(56));
        CHECKS.answers("19: the day stays", false, () -> x.old(55));
        CHECKS.range("20: day -1", () -> x.old(-1));
        CHECKS.range("20: day 100000", () -> x.old(100000));
    }
}
