/** Promises 39 to 55 at their edges: answers that are judged, and what is said one by one. */
public final class EdgesOfAnswersTest {
    private static final int TERMS = Sentence.TERMS;
    private static final String ONE = Sentence.ONE;
    private static final String TWO = Sentence.TWO;
    private static final String NINE = Sentence.NINE;
    private static final String K = Sentence.K;
    private static final String IMPOSSIBLE = Sentence.IMPOSSIBLE;
    private static final String[] RICH = Sentence.RICH;
    private static final String[] CALLS = {"judge S", "fits S", "must S 0", "least S", "lies S", "ask S", "leaves S",
        "likely S 0"};
    private static final String[] LIKEWISE = {"-2: there is no such SLOT, no KITCHEN, a number is none such (asked last), "
        + "not two each; -6: it has nothing.", "-2, -6 likewise.", "-2, -6 likewise, no such what.", "-2, -6 likewise.",
        "-2, -6 likewise.", "-2, -6 likewise.", "-2, -6 likewise.", "-2, -6 likewise, no such what."};

    public static void main(String[] args) {
        for (int i = 0; i < CALLS.length; i++) {
            noSuchSlot(39 + i, LIKEWISE[i], CALLS[i]);
            itHasNothing(39 + i, LIKEWISE[i], CALLS[i]);
            noSuchNumber(39 + i, LIKEWISE[i], CALLS[i]);
            notTwoEach(39 + i, LIKEWISE[i], CALLS[i]);
            everyWidth(39 + i, LIKEWISE[i], CALLS[i]);
        }
        noSuchWhat();
        judge();
        fullRow();
        fitsAndMust();
        leastAndLies();
        askAndLeaves();
        likely();
        saidOnce();
        sayRefused();
        unsayAndAnew();
        said();
        may();
        left();
        forced();
        lied();
        still();
        withoutAKitchen();
        Sentence.eachOf(39, 55);
        Check.finish();
    }

    private static String row(int slot, int width, long... numbers) {
        StringBuilder calls = new StringBuilder("row " + slot + " " + width + " " + numbers.length + " = 0;");
        for (int i = 0; i < numbers.length; i++) {
            calls.append("write ").append(slot).append(" ").append(i).append(" ").append(numbers[i]).append(" = 0;");
        }
        return calls.toString();
    }

    private static String of(String call, Object slot) {
        return call.replace("S", "" + slot);
    }

    private static void noSuchSlot(int promise, String words, String call) {
        String wrong = of(call, -1) + " = -2;" + of(call, 4) + " = -2;" + of(call, "MIN") + " = -2;" + of(call, "MAX") + " = -2;";
        Sentence.holds(promise, words, ">" + K, row(0, 0) + row(3, 0), wrong + of(call, 0) + " = ?;" + of(call, 3) + " = ?");
        Sentence.stays(promise, words, RICH, wrong);
        String none = of(call, 0) + " = -2;" + of(call, 1) + " = -2;" + of(call, 3) + " = -2;" + of(call, 4) + " = -2";
        Sentence.holds(promise, words, none, row(0, 0) + row(1, 0, 0), none);
        Sentence.stays(promise, words, new String[] {row(0, 0)}, none);
    }

    private static void itHasNothing(int promise, String words, String call) {
        for (int slot = 0; slot < 4; slot++) {
            Sentence.holds(promise, words, ">" + K, of(call, slot) + " = -6", row((slot + 1) % 4, 0, 9), of(call, slot) + " = -6");
        }
        Sentence.stays(promise, words, RICH, of(call, 3) + " = -6");
        Sentence.holds(promise, words, ">kitchen;", of(call, 0) + " = -6; row 0 0 0 = 0;" + of(call, 0) + " = ?");
    }

    /** The first and the last claim, so and not, are fine; what is beside them is not. */
    private static void noSuchNumber(int promise, String words, String call) {
        String one = of(call, 0);
        long[][] wrong = {{4, 0}, {-1, 0}, {9, 1}, {0, 2}, {0, -1}, {1, 0, 4, 1}, {1, 0, 0, 2}, {4, 0, 1, 0}, {0, 2, 1, 0},
            {127, 0}, {-128, 0}, {0, 127}, {0, -128}};
        for (long[] numbers : wrong) {
            Sentence.holds(promise, words, ">" + K, row(0, 0, numbers), one + " = -2", row(0, 3, numbers), one + " = -2");
        }
        for (long far : new long[] {256, 65536, 1L << 32, (1L << 32) + 1, Long.MAX_VALUE, Long.MIN_VALUE, -256}) {
            Sentence.holds(promise, words, ">" + K, row(0, 3, far, 0), one + " = -2", row(0, 3, 0, far), one + " = -2");
        }
        long[][] fine = {{0, 0}, {0, 1}, {3, 0}, {3, 1}, {0, 1, 3, 0}};
        for (long[] numbers : fine) {
            notRefused(promise, words, one, ">" + K, row(0, 0, numbers));
        }
        notRefused(promise, words, one, ">" + NINE, row(0, 0, 8, 1));
        Sentence.holds(promise, words, ">" + NINE, row(0, 0, 9, 1), one + " = -2");
        Sentence.holds(promise, words, ">kitchen;", row(0, 0, 0, 0), one + " = -2");
        // Asked last: a slot that has nothing is -6, whatever other rows have.
        Sentence.holds(promise, words, ">" + K, row(1, 0, 99, 99), one + " = -6");
    }

    private static void notTwoEach(int promise, String words, String call) {
        String one = of(call, 0);
        for (long[] numbers : new long[][] {{0}, {0, 0, 0}, {1, 0, 1, 0, 1}}) {
            Sentence.holds(promise, words, ">" + K, row(0, 0, numbers), one + " = -2");
            Sentence.stays(promise, words, new String[] {">" + K, row(0, 0, numbers)}, one + " = -2");
        }
        Sentence.holds(promise, words, ">" + K, "row 0 0 59 = 0", one + " = -2; row 0 0 60 = 0;" + one + " = ?; row 0 0 1 = 0;"
                + one + " = -2");
    }

    private static void everyWidth(int promise, String words, String call) {
        for (int width = 0; width < 4; width++) {
            for (int slot = 0; slot < 4; slot++) {
                notRefused(promise, words, of(call, slot), ">" + K, row(slot, width, 1, 1));
                notRefused(promise, words, of(call, slot), ">" + K, row(slot, width));
            }
        }
    }

    private static void notRefused(int promise, String words, String call, String... steps) {
        long answer = Sentence.answer(promise, words, call, steps);
        Check.isTrue(call + " is not refused: " + answer, answer != -2 && answer != -6);
    }

    private static void noSuchWhat() {
        for (int promise : new int[] {41, 46}) {
            String name = promise == 41 ? "must " : "likely ";
            String words = "-2, -6 likewise, no such what.";
            String wrong = name + "0 2 = -2;" + name + "0 -1 = -2;" + name + "0 MAX = -2;" + name + "0 MIN = -2;";
            Sentence.holds(promise, words, ">" + K, row(0, 0), wrong + name + "0 0 = ?;" + name + "0 1 = ?", row(0, 0, 2, 1), wrong);
            Sentence.holds(promise, words, ">" + K, name + "0 2 = -2;" + name + "0 0 = -6");
            Sentence.stays(promise, words, RICH, wrong);
        }
    }

    private static void judge() {
        String words = "how many ahead of the first with which no SOUND STORY fits them any more.";
        Sentence.holds(39, words, ">" + K, row(0, 0), "judge 0 = 0", row(0, 0, 2, 1), "judge 0 = 0", row(0, 0, 1, 1),
                "judge 0 = 1", row(0, 0, 1, 1, 0, 1, 2, 0, 3, 0), "judge 0 = 4", row(0, 0, 1, 1, 0, 1, 2, 1, 3, 0), "judge 0 = 2",
                row(0, 0, 1, 1, 1, 0), "judge 0 = 1", row(0, 0, 1, 1, 1, 1, 1, 1), "judge 0 = 3", row(0, 0, 3, 1), "judge 0 = 0");
        Sentence.holds(39, words, ">" + IMPOSSIBLE, row(0, 0), "judge 0 = 0", row(0, 0, 0, 1), "judge 0 = 0");
        Sentence.holds(39, words, ">" + TWO + "known 0;", row(0, 0, 0, 0, 0, 0), "judge 0 = 0; fits 0 = 0", row(0, 0, 0, 0, 1, 0),
                "judge 0 = 0; fits 0 = 0; must 0 1 = 0", row(0, 0, 1, 0, 1, 1, 1, 1), "judge 0 = 1; fits 0 = 0; leaves 0 = 0",
                row(0, 0, 0, 1, 1, 1), "judge 0 = 2; fits 0 = 1");
        // Stories need only be sound: what is wanted or said does not matter.
        Sentence.holds(39, words, ">" + K, row(0, 0, 0, 1), "judge 0 = 1; say 0 0 = 1; judge 0 = 1; fits 0 = 2");
    }

    private static void fullRow() {
        String words = "a SLOT's row of answers, two numbers each: a CLAIM, 1 so or 0 not";
        Sentence.holds(39, words, ">" + NINE, "row 2 3 60 = 0; judge 2 = 30; fits 2 = 256; write 2 59 1 = 0; judge 2 = 29;"
                + "fits 2 = 0; write 2 58 8 = 0; judge 2 = 30; fits 2 = 128; write 2 1 1 = 0; judge 2 = 1; write 2 57 2 = 0;"
                + "judge 2 = -2");
    }

    private static void fitsAndMust() {
        Sentence.holds(40, "SOUND STORIES that fit all of them.", ">" + K, row(0, 0), "fits 0 = 3", row(0, 0, 1, 1), "fits 0 = 2",
                row(0, 0, 1, 1, 0, 0), "fits 0 = 1", row(0, 0, 2, 1), "fits 0 = 0", ">" + NINE, row(0, 0), "fits 0 = 512",
                row(0, 0, 8, 0), "fits 0 = 256", ">" + IMPOSSIBLE, row(0, 0), "fits 0 = 0");
        String words = "CLAIMS that are so in all of these (what 0), not (1), as bits (0 without any).";
        Sentence.holds(41, words, ">" + K, row(0, 0), "must 0 0 = 0; must 0 1 = 12", row(0, 0, 1, 0), "must 0 0 = 1; must 0 1 = 14",
                row(0, 0, 2, 1), "must 0 0 = 0; must 0 1 = 0", ">" + NINE, row(0, 0), "must 0 0 = 0; must 0 1 = 0",
                row(0, 0, 8, 1, 0, 0), "must 0 0 = 256; must 0 1 = 1", ">" + IMPOSSIBLE, row(0, 0), "must 0 0 = 0; must 0 1 = 0",
                ">kitchen;", row(0, 0), "must 0 0 = 0; must 0 1 = 0; fits 0 = 1");
    }

    private static void leastAndLies() {
        Sentence.holds(42, "The fewest UNTRUE CLAIMS of one of these. NONE: there is none; -2, -6 likewise.", ">" + K, row(0, 0),
                "least 0 = 1", row(0, 0, 1, 1), "least 0 = 2", row(0, 0, 0, 0), "least 0 = 3", row(0, 0, 2, 1), "least 0 = -1",
                ">" + NINE, row(0, 0), "least 0 = 0", row(0, 0, 0, 0, 1, 0, 2, 0, 3, 0, 4, 0, 5, 0, 6, 0, 7, 0, 8, 0), "least 0 = 9;"
                + "lies 0 = 511", ">" + IMPOSSIBLE, row(0, 0), "least 0 = -1");
        // The least set, not that of the least story: 6 and 5 have one lie each, 1 and 2.
        Sentence.holds(43, "The least set of CLAIMS that are UNTRUE in one with so few. NONE, -2, -6 likewise.",
                ">" + NINE + "law some not 0 not 1 not 8;", row(0, 0), "least 0 = 1; lies 0 = 1", row(0, 0, 0, 1), "lies 0 = 2",
                row(0, 0, 0, 1, 1, 1), "lies 0 = 256", row(0, 0, 2, 0), "least 0 = 2; lies 0 = 5", ">" + NINE, row(0, 0),
                "lies 0 = 0", ">" + K, row(0, 0, 2, 1), "lies 0 = -1", ">" + IMPOSSIBLE, row(0, 0), "lies 0 = -1");
    }

    private static void askAndLeaves() {
        String words = "ASK: the CLAIM that leaves fewest of these at worst, if fewer than now, the first of several. NONE: none;";
        Sentence.holds(44, words, ">" + NINE, row(0, 0), "ask 0 = 0; leaves 0 = 256", row(0, 0, 0, 1), "ask 0 = 1; leaves 0 = 128",
                row(0, 0, 0, 1, 1, 0, 2, 0, 3, 0, 4, 0, 5, 0, 6, 0, 7, 0), "fits 0 = 2; ask 0 = 8; leaves 0 = 1",
                row(0, 0, 0, 1, 1, 0, 2, 0, 3, 0, 4, 0, 5, 0, 6, 0, 7, 0, 8, 1), "fits 0 = 1; ask 0 = -1; leaves 0 = 1",
                ">" + K, row(0, 0), "ask 0 = 0; leaves 0 = 2", row(0, 0, 0, 1), "ask 0 = 1; leaves 0 = 1", row(0, 0, 2, 1),
                "ask 0 = -1; leaves 0 = 0", ">" + IMPOSSIBLE, row(0, 0), "ask 0 = -1; leaves 0 = 0", ">kitchen;", row(0, 0),
                "ask 0 = -1; leaves 0 = 1");
        // 0, 1, 3 and 7 are sound: of 0 and 2 three are left at worst, of 1 two.
        Sentence.holds(45, "How many it leaves at worst (as now without). -2, -6 likewise.", ">kitchen;"
                + "claim so cost 1 found 1;".repeat(3) + "law if 1 then 0;law if 2 then 1;", row(0, 0), "fits 0 = 4; ask 0 = 1;"
                + "leaves 0 = 2", row(0, 0, 0, 1), "fits 0 = 3; ask 0 = 1; leaves 0 = 2", row(0, 0, 1, 1), "fits 0 = 2; ask 0 = 2;"
                + "leaves 0 = 1", row(0, 0, 2, 1), "fits 0 = 1; ask 0 = -1; leaves 0 = 1", row(0, 0, 2, 1, 0, 0), "leaves 0 = 0");
    }

    private static void likely() {
        Sentence.holds(46, "The part of these in which all that is WANTED is as WANTED, above (what 0), below (1). NONE: there "
                + "are none;", ">" + K, row(0, 0), "likely 0 0 = 1; likely 0 1 = 3", row(0, 0, 1, 1), "likely 0 0 = 1; likely 0 1 = 2",
                row(0, 0, 0, 1), "likely 0 0 = 0; likely 0 1 = 1", row(0, 0, 0, 0), "likely 0 0 = 1; likely 0 1 = 1",
                row(0, 0, 2, 1), "likely 0 0 = -1; likely 0 1 = -1", ">" + IMPOSSIBLE, row(0, 0), "likely 0 0 = -1; likely 0 1 = -1",
                ">" + NINE, row(0, 0), "likely 0 0 = 1; likely 0 1 = 1; wish 0 0 = -1; likely 0 0 = 1; likely 0 1 = 2;"
                + "wish 8 1 = -1; likely 0 1 = 4", ">" + NINE + "wants 0;wants 1;wants 2;wants 3;wants 4;wants 5;wants 6;wants 7;"
                + "wants 8;", row(0, 0), "likely 0 0 = 1; likely 0 1 = 512");
        Sentence.holds(TERMS, "FRACTIONS are told in lowest terms (0 / 1).", ">kitchen;" + "claim so cost 1 found 1;".repeat(3)
                + "law some 0 1;wants 2;", row(0, 0), "fits 0 = 6; likely 0 0 = 1; likely 0 1 = 2; wish 0 1 = -1; likely 0 0 = 1;"
                + "likely 0 1 = 3; wish 0 -1 = 1; wish 2 -1 = 1; wish 1 1 = -1; likely 0 0 = 2; likely 0 1 = 3");
    }

    // ---- promises 47 to 55

    private static void saidOnce() {
        Sentence.holds(TERMS, "SAID: one by one, each CLAIM once at most, so that some STORY that HOLDS has all that was said.",
                ">" + NINE, "say 8 1 = 256; say 0 0 = 128; say 1 0 = 64; say 2 1 = 32; say 3 0 = 16; say 4 1 = 8; say 5 0 = 4;"
                + "say 6 1 = 2; say 7 0 = 1; count 7 = 9; left = 1; say 0 0 = -5; say 8 1 = -5; said 0 = 17; said 8 = 14;"
                + "said 9 = -1; unsay = 8; say 7 1 = 1; said 8 = 15; anew = 9; left = 512; count 7 = 0");
    }

    private static void sayRefused() {
        String words = "-5: none would be, it was said already; -2: there is no such CLAIM, value (1 so, 0 not).";
        Sentence.holds(47, words, "say 0 1 = -2; say 0 0 = -2", ">kitchen;", "say 0 0 = -2", ">" + K, "say 0 1 = -5; say 4 0 = -2;"
                + "say -1 0 = -2; say 0 2 = -2; say 0 -1 = -2; say MAX 0 = -2; say MIN 0 = -2; say 0 MAX = -2; say 0 MIN = -2;"
                + "say 3 1 = -5; say 2 1 = -5; count 7 = 0; say 3 0 = 1; say 3 0 = -5; say 3 1 = -5; say 3 2 = -2; say 0 1 = -5;"
                + "count 7 = 1; said 0 = 6", ">" + NINE, "say 8 0 = 256; say 9 0 = -2; say 8 1 = -5; say 8 0 = -5", ">" + IMPOSSIBLE,
                "say 0 0 = -5; say 0 1 = -5; count 7 = 0");
        // RICH has said 1 so and 0 so; the one story that is left is 3.
        Sentence.stays(47, words, RICH, "say 0 0 = -5; say 0 1 = -5; say 1 1 = -5; say 1 0 = -5; say 2 1 = -5; say 3 1 = -5;"
                + "say 4 0 = -2; say -1 0 = -2; say 2 2 = -2; say 2 -1 = -2; say 0 2 = -2");
        Sentence.stays(47, words, new String[] {">" + K}, "say 0 1 = -5; say 2 1 = -5");
        Sentence.holds(47, "how many STORIES that HOLD are left.", ">" + NINE + "law if 0 then 1;", "stories = 384; say 0 1 = 128;"
                + "say 1 0 = -5; say 1 1 = 128; anew = 2; say 1 0 = 128; say 0 1 = -5; say 0 0 = 128");
    }

    private static void unsayAndAnew() {
        Sentence.holds(48, "The latest said is taken back: how many there are. -5: there is none; -2: there is no KITCHEN.",
                "unsay = -2", ">kitchen;", "unsay = -5", ">" + NINE, "unsay = -5; say 3 1 = 256; say 5 0 = 128; say 4 0 = 64;"
                + "unsay = 2; said 2 = -1; left = 128; may 4 = 3; may 5 = 1; unsay = 1; said 1 = -1; said 0 = 7; left = 256;"
                + "unsay = 0; count 7 = 0; left = 512; unsay = -5; unsay = -5; end 0 = 0; kitchen = 0; unsay = -2");
        Sentence.stays(48, "-5: there is none;", new String[] {">" + K, "say 0 0 = 1; unsay = 0"}, "unsay = -5");
        Sentence.stays(48, "-2: there is no KITCHEN.", new String[] {row(0, 0)}, "unsay = -2");
        Sentence.holds(49, "All of these are: how many there were. -2 likewise.", "anew = -2", ">kitchen;", "anew = 0", ">" + NINE,
                "anew = 0; say 3 1 = 256; anew = 1; anew = 0; left = 512; say 3 0 = 256; say 8 0 = 128; say 0 0 = 64; anew = 3;"
                + "left = 512; said 0 = -1; lied = 0; unsay = -5; say 3 1 = 256; said 0 = 7; end 0 = 0; kitchen = 0; anew = -2");
        Sentence.stays(49, "All of these are: how many there were.", new String[] {">" + K}, "anew = 0");
    }

    private static void said() {
        String words = "The i-th said (from 0): twice the CLAIM, and 1 if so. NONE: there is none such; -2 likewise.";
        Sentence.holds(50, words, "said 0 = -2; said -1 = -2", ">kitchen;", "said 0 = -1", ">" + NINE, "said 0 = -1; say 8 1 = 256;"
                + "say 0 0 = 128; say 8 0 = -5; said 0 = 17; said 1 = 0; said 2 = -1; said -1 = -1; said MAX = -1; said MIN = -1;"
                + "say 1 1 = 64; said 2 = 3; say 2 0 = 32; said 3 = 4; said 9 = -1; said 8 = -1");
        Sentence.stays(50, words, RICH, "said 2 = -1; said -1 = -1; said 0 = 3; said 1 = 1");
    }

    private static void may() {
        String words = "-2: there is no such CLAIM.";
        Sentence.holds(51, words, "may 0 = -2", ">kitchen;", "may 0 = -2", ">" + NINE, "may 0 = 3; may 8 = 3; may 9 = -2; may -1 = -2;"
                + "may MAX = -2; may MIN = -2");
        Sentence.holds(51, "What may be said of a CLAIM, as bits (1 not, 2 so; what was said alone, if it was).", ">" + K,
                "may 0 = 1; may 1 = 2; may 2 = 1; may 3 = 1; wish 0 -1 = 0; may 0 = 3; may 1 = 3; say 1 0 = 1; may 1 = 1; may 0 = 2;"
                + "unsay = 0; say 1 1 = 2; may 1 = 2; may 0 = 3", ">" + IMPOSSIBLE, "may 0 = 0");
        Sentence.stays(51, words, RICH, "may 4 = -2; may -1 = -2; may 0 = 2; may 2 = 1");
    }

    private static void left() {
        Sentence.holds(52, "How many STORIES are left. -2: there is no KITCHEN.", "left = -2", ">" + IMPOSSIBLE, "left = 0",
                ">kitchen;", "left = 1", ">" + NINE, "left = 512; say 0 0 = 256; left = 256; say 0 1 = -5; left = 256");
        Sentence.holds(TERMS, "Left: STORIES that HOLD and have all that was said.", ">" + NINE + "wants 0;known 1;law some 2;",
                "left = 64; say 3 0 = 32; left = 32; say 0 1 = 32; left = 32; stories = 64");
        Sentence.stays(52, "How many STORIES are left.", RICH, "left = 1");
    }

    private static void forced() {
        Sentence.holds(53, "CLAIMS that were not said, of which only one may be, as bits. -2 likewise.", "forced = -2", ">kitchen;",
                "forced = 0", ">" + IMPOSSIBLE, "forced = 0", ">" + NINE, "forced = 0; say 0 0 = 256; forced = 0", ">" + K,
                "forced = 15; say 1 1 = 1; forced = 13; say 0 0 = 1; say 2 0 = 1; say 3 0 = 1; forced = 0; anew = 4; forced = 15",
                ">" + NINE + "law if 0 then 8;", "forced = 0; say 0 1 = 128; forced = 256; say 8 1 = 128; forced = 0; anew = 2;"
                + "say 8 0 = 128; forced = 1");
        Sentence.stays(53, "CLAIMS that were not said, of which only one may be, as bits.", RICH, "forced = 12");
    }

    private static void lied() {
        Sentence.holds(54, "CLAIMS that were said UNTRUE, as bits. -2 likewise.", "lied = -2", ">kitchen;", "lied = 0", ">" + TWO,
                "lied = 0; say 0 1 = 2; lied = 0; say 1 1 = 1; lied = 2; unsay = 1; lied = 0; say 1 0 = 1; lied = 0; anew = 2;"
                + "say 0 0 = 2; lied = 1", ">" + NINE, "say 8 0 = 256; lied = 256; say 0 0 = 128; lied = 257; say 1 1 = 64;"
                + "lied = 257; anew = 3; lied = 0");
        Sentence.stays(54, "CLAIMS that were said UNTRUE, as bits.", RICH, "lied = 2");
    }

    private static void still() {
        Sentence.holds(55, "The fewest UNTRUE CLAIMS (what was said with them) of a STORY that is left. NONE: none is; -2 likewise.",
                "still = -2", ">" + IMPOSSIBLE, "still = -1", ">kitchen;", "still = 0", ">" + NINE + "law if not 0 then not 8;",
                "still = 0; say 1 0 = 192; still = 1; say 0 0 = 64; still = 3; say 2 1 = 32; still = 3; unsay = 2; unsay = 1;"
                + "still = 1; fewest = 0");
        Sentence.stays(55, "The fewest UNTRUE CLAIMS (what was said with them) of a STORY that is left.", RICH, "still = 2");
    }

    private static void withoutAKitchen() {
        String words = "-2: there is no such CLAIM, value (1 so, 0 not).";
        Sentence.stays(47, words, new String[] {row(1, 1, 5), "<kitchen;"}, "say 0 0 = -2; unsay = -2; anew = -2; said 0 = -2;"
                + "may 0 = -2; left = -2; forced = -2; lied = -2; still = -2");
        Sentence.holds(47, words, ">" + ONE, "say 0 0 = 1; said 0 = 0; anew = 1; say 0 1 = 1; said 0 = 1");
    }
}
