import java.util.ArrayList;
import java.util.List;
import java.util.function.IntFunction;
import java.util.stream.Collectors;
import java.util.stream.IntStream;

/**
 * Tests of single sentences of the document. Each is a run of calls on a new plan, one line a call,
 * as "room 20 0 -> range". Behind the arrow stands what is due: a number, true, false, done (of a
 * call without an answer), or a refusal: unknown, range, state, noroom.
 *
 * <p>Behind every call that is refused, some 2,600 questions of all kinds are asked: the answers are
 * those of a plan on which the refused call was never made.
 */
final class Sentences {
    /** The document promises nothing about an object behind its 512th call. */
    static final int MOST_CALLS = 512;

    /** A small plan with some of everything: room 4 is trapped, key 30 is missing, the latest way has three doors. */
    static final String HOUSE = """
            room 0 2 -> 0
            room 0 0 -> 1
            room 1 0 -> 2
            room 1 1 -> 3
            room 2 0 -> 4
            door 0 1 10 0 -> 0
            door 1 2 5 7 -> 1
            door 2 3 8 0 -> 2
            door 2 4 3 30 -> 3
            key 7 true -> done
            hazard 2 5 -> done
            detector 1 99 1 -> done
            detector 9 1 2 -> done
            people 1 8 17 20 -> 0
            people 2 22 6 3 -> 1
            window 2 0 0 3000 -> 0
            window 4 1000 2000 6000 -> 1
            look 10 100 -> done
            way 3 2 0 -> 23
            """;

    private record Line(PlanCall call, Object due) {
        static Line of(String text) {
            String[] sides = text.split("->");
            return new Line(PlanCall.of(sides[0]), dueOf(sides[1].trim()));
        }

        private static Object dueOf(String word) {
            return switch (word) {
                case "unknown" -> "throws.IllegalArgumentException";
                case "range" -> "throws.IndexOutOfBoundsException";
                case "state" -> "throws.IllegalStateException";
                case "noroom" -> "throws.UnsupportedOperationException";
                case "done" -> word;
                case "true", "false" -> Boolean.valueOf(word);
                default -> Integer.valueOf(word);
            };
        }

        boolean isRefused() {
            return due.toString().startsWith("throws.");
        }
    }

    private final Checks checks = new Checks();
    private final List<PlanCall> questions = questions();

    /** The same line with the numbers 0 to n - 1, or what is made of them. */
    static String times(int n, IntFunction<String> line) {
        return IntStream.range(0, n).mapToObj(line).collect(Collectors.joining("\n"));
    }

    void test(String sentence, String... parts) {
        List<Line> lines = linesOf(String.join("\n", parts));
        checks.same(sentence + ": a run of at most 512 calls", true, lines.size() <= MOST_CALLS);
        answersAreDue(sentence, lines);
        refusedChangesNothing(sentence, lines);
    }

    /** Two runs by turns, each on a plan of its own. */
    void twoPlans(String sentence, String first, String second) {
        List<Line> firstLines = linesOf(first);
        List<Line> secondLines = linesOf(second);
        PlanRows firstPlan = new PlanRows();
        PlanRows secondPlan = new PlanRows();
        for (int i = 0; i < Math.max(firstLines.size(), secondLines.size()); i++) {
            answerIsDue(sentence + ": the first", firstLines, i, firstPlan);
            answerIsDue(sentence + ": the second", secondLines, i, secondPlan);
        }
    }

    void end(String test) {
        checks.end(test);
    }

    private void answersAreDue(String sentence, List<Line> lines) {
        PlanRows plan = new PlanRows();
        for (int i = 0; i < lines.size(); i++) {
            answerIsDue(sentence, lines, i, plan);
        }
    }

    private void answerIsDue(String sentence, List<Line> lines, int i, PlanRows plan) {
        if (i < lines.size()) {
            Line line = lines.get(i);
            checks.same(sentence + ": call " + (i + 1) + ", " + line.call.text(), line.due, line.call.outcomeOn(plan));
        }
    }

    private static List<Line> linesOf(String text) {
        return text.lines().map(String::trim).filter(line -> !line.isEmpty()).map(Line::of).collect(Collectors.toList());
    }

    private void refusedChangesNothing(String sentence, List<Line> lines) {
        List<PlanCall> taken = new ArrayList<>();
        List<Object> dues = null;
        for (Line line : lines) {
            if (!line.isRefused()) {
                taken.add(line.call);
                dues = null;
            } else if (taken.size() + 1 < MOST_CALLS) {
                dues = dues == null ? answersBehind(taken, null) : dues;
                firstDifference(sentence + ": behind the refused " + line.call.text(), dues, answersBehind(taken, line.call));
            }
        }
    }

    private void firstDifference(String what, List<Object> dues, List<Object> got) {
        int i = 0;
        while (i < dues.size() && dues.get(i).equals(got.get(i))) {
            i++;
        }
        String asked = i < dues.size() ? questions.get(i).text() + " answers " + got.get(i) + ", without it " + dues.get(i) : "alike";
        checks.same(what, "alike", asked);
    }

    /** The answers to all questions on plans with the calls that were taken, and a refused one if there is one. */
    private List<Object> answersBehind(List<PlanCall> taken, PlanCall refused) {
        List<Object> answers = new ArrayList<>();
        int most = MOST_CALLS - taken.size() - 1;
        while (answers.size() < questions.size()) {
            PlanRows plan = new PlanRows();
            taken.forEach(call -> call.outcomeOn(plan));
            if (refused != null) {
                refused.outcomeOn(plan);
            }
            int end = Math.min(questions.size(), answers.size() + most);
            questions.subList(answers.size(), end).forEach(call -> answers.add(call.outcomeOn(plan)));
        }
        return answers;
    }

    /** Questions of all kinds; what changes the plan comes last. */
    private static List<PlanCall> questions() {
        List<PlanCall> all = new ArrayList<>();
        ask(all, "count", 0, 4);
        ask(all, "told", 0, 2);
        ask(all, "step", 0, 40);
        ask(all, "missing", 0, 30);
        ask(all, "trapped", 0, 40);
        for (int day : new int[] {0, 10, 11, 12, 110, 111, 365, 366, 9999, 10010, 10011, 99998, 99999}) {
            all.add(new PlanCall("old", day));
        }
        for (int window = 0; window < 30; window++) {
            all.add(new PlanCall("ladder", window, 1, 2, -3));
            all.add(new PlanCall("ladder", window, -200000, 0, 0));
            all.add(new PlanCall("reaches", window, 0, 0, -200000, 200000));
        }
        for (int loop = 1; loop <= 9; loop++) {
            for (int number = 1; number <= 99; number++) {
                all.add(new PlanCall("alarm", loop, number));
            }
        }
        for (int floor = -1; floor < 20; floor++) {
            for (int hour = 0; hour < 24; hour++) {
                all.add(new PlanCall("inside", floor, hour));
            }
        }
        askWays(all);
        askForMore(all);
        return all;
    }

    private static void ask(List<PlanCall> all, String name, int least, int most) {
        for (int i = least; i <= most; i++) {
            all.add(new PlanCall(name, i));
        }
    }

    private static void askWays(List<PlanCall> all) {
        for (int room = 0; room < 40; room++) {
            all.add(new PlanCall("hoses", room, 1));
            for (int avoid : new int[] {0, 1, 4, 128, 255}) {
                all.add(new PlanCall("way", room, 0, avoid));
                all.add(new PlanCall("way", room, 1, avoid));
                all.add(new PlanCall("way", room, 2, avoid));
                all.add(new PlanCall("step", 0));
            }
        }
    }

    /** What is taken, and by which number, tells what is there already. */
    private static void askForMore(List<PlanCall> all) {
        for (int day = 8; day <= 11; day++) {
            all.add(new PlanCall("look", day, 50));
        }
        for (int key = 1; key <= 30; key++) {
            all.add(new PlanCall("key", key, 1));
        }
        all.add(new PlanCall("window", 0, 1, 1, 1));
        all.add(new PlanCall("detector", 9, 98, 0));
        for (int room = 0; room < 40; room++) {
            all.add(new PlanCall("people", room, 3, 3, 1));
            all.add(new PlanCall("door", room, 0, 1, 0));
        }
        for (int floor = 0; floor < 20; floor++) {
            all.add(new PlanCall("inside", floor, 3));
        }
        all.add(new PlanCall("room", 0, 0));
    }
}
