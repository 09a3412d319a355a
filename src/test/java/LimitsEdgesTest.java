/** A plan that is full of everything, the last call of a plan, and two plans side by side. */
public final class LimitsEdgesTest {
    private static final Sentences SENTENCES = new Sentences();
    /** Rooms 0 to 38 are inner ones in a row, room 39 is outside; key 1 opens the second door of each pair. */
    private static final String FULL = String.join("\n",
            Sentences.times(40, i -> "room " + (19 - i / 2) + " " + (i == 39 ? 2 : 0) + " -> " + i),
            Sentences.times(39, i -> "door " + i + " " + (i + 1) + " 10 0 -> " + i),
            Sentences.times(39, i -> "door " + (i + 1) + " " + i + " 9 1 -> " + (39 + i)),
            "door 0 1 500 29 -> 78", "door 38 39 500 30 -> 79",
            Sentences.times(100, i -> "detector " + (1 + i % 9) + " " + (99 - i / 9) + " " + i % 40 + " -> done"),
            Sentences.times(60, i -> "people " + i % 40 + " 0 23 1 -> " + i),
            Sentences.times(30, i -> "window 39 0 0 " + (1000 + i) + " -> " + i)) + "\n";

    /** What HOUSE answers, asked for as long as the other plan is filled. */
    private static final String ASKED_AGAIN_AND_AGAIN = Sentences.times(24, i -> """
            count 0 -> 5
            count 1 -> 4
            count 2 -> 2
            count 3 -> 2
            count 4 -> 1
            told 0 -> 3
            step 0 -> 2
            missing 0 -> 30
            trapped 0 -> 4
            alarm 1 99 -> 1
            inside -1 12 -> 20
            ladder 0 0 0 0 -> 3000
            old 111 -> true
            """);

    public static void main(String[] args) {
        fullOfEverything();
        lastCall();
        SENTENCES.twoPlans("1: two plans have nothing in common", FULL + "way 0 2 0 -> 390\nlook 5000 7 -> done\n",
                Sentences.HOUSE + ASKED_AGAIN_AND_AGAIN + "door 4 3 9 9 -> 4\nway 3 2 0 -> 23\nstep 1 -> 1\npeople 0 1 1 1 -> 2\ninside 0 1 -> 1\n");
        SENTENCES.end("LimitsEdgesTest");
    }

    private static void fullOfEverything() {
        SENTENCES.test("2, 3, 12, 14, 16: no room in a plan that is full of everything", FULL, "room 0 0 -> noroom", "door 0 1 1 0 -> noroom",
                "detector 9 1 0 -> noroom", "people 0 0 0 1 -> noroom", "window 0 0 0 0 -> noroom", "count 0 -> 40", "count 1 -> 80", "count 2 -> 100",
                "count 3 -> 30", "count 4 -> 0");
        SENTENCES.test("6 to 20: what a full plan answers", FULL, "way 0 2 0 -> 390", "told 0 -> 39", "told 1 -> 19", "told 2 -> 39", "step 0 -> 0", "step 38 -> 38",
                "step 39 -> -1", "missing 0 -> 1", "missing 1 -> 29", "missing 2 -> 30", "missing 3 -> -1", "key 1 true -> done", "way 0 2 0 -> 351", "step 0 -> 39",
                "step 38 -> 77", "hazard 20 255 -> done", "way 0 2 1 -> -1", "way 20 2 1 -> 171", "trapped 0 -> -1", "hoses 0 1 -> -1", "alarm 1 99 -> 0",
                "alarm 9 99 -> 8", "alarm 1 88 -> 19", "alarm 2 88 -> -3", "inside -1 0 -> 60", "inside 0 23 -> 2", "inside 19 12 -> 4", "ladder 29 0 0 0 -> 1029",
                "reaches 29 0 0 0 1028 -> false", "look 99999 10000 -> done", "old 99999 -> false");
    }

    private static void lastCall() {
        String keys = Sentences.times(490, i -> "key 30 " + (i % 2 == 0) + " -> done");
        SENTENCES.test("an object is used for at most 512 calls: the last ones", Sentences.HOUSE, keys, "room 0 0 -> 5", "count 0 -> 6", "way 3 2 0 -> 23");
        SENTENCES.test("512 ways", "room 0 0 -> 0", "room 0 2 -> 1", "door 0 1 1 0 -> 0", Sentences.times(509, i -> i % 2 == 0 ? "way 0 2 0 -> 1" : "step 0 -> 0"));
    }
}
