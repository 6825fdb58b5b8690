/** Promises 67 to 75 at their edges: what changes a kitchen, counts, images, rows. */
public final class EdgesOfStateTest {
    private static final int TERMS = Sentence.TERMS;
    private static final String ONE = Sentence.ONE;
    private static final String TWO = Sentence.TWO;
    private static final String NINE = Sentence.NINE;
    private static final String K = Sentence.K;
    private static final String[] RICH = Sentence.RICH;
    private static final String[] QUIET = {">" + K, "row 0 0 2 = 0", "keep 1 = 0"};

    public static void main(String[] args) {
        learn();
        wish();
        price();
        whenSomethingWasSaid();
        count();
        keepAndBack();
        allOfAnImage();
        imagesAreApart();
        imageOfNoKitchen();
        row();
        rowRefused();
        rowIsAllZero();
        write();
        cut();
        pasteRefused();
        pasteBeyond();
        paste();
        pasteAsTheyWere();
        Sentence.eachOf(67, 75);
        Check.finish();
    }

    private static void learn() {
        String words = "-5: something was said; -2: there are none such.";
        String wrong = "learn 4 1 = -2; learn -1 1 = -2; learn MAX 0 = -2; learn MIN 0 = -2; learn 0 2 = -2; learn 0 -1 = -2;"
                + "learn 0 MAX = -2; learn 0 MIN = -2;";
        Sentence.holds(67, words, "learn 0 1 = -2; learn 0 0 = -2", ">kitchen;", "learn 0 1 = -2", ">" + K, wrong);
        Sentence.stays(67, words, QUIET, wrong);
        Sentence.holds(67, "A CLAIM is KNOWN (1) or not (0) from now on: what it was.", ">" + NINE, "learn 8 1 = 0; learn 8 1 = 1;"
                + "claim 8 4 = 1; count 3 = 1; stories = 256; learn 9 1 = -2; learn 0 1 = 0; count 3 = 2; learn 8 0 = 1; learn 8 0 = 0;"
                + "claim 8 4 = 0; claim 0 4 = 1; stories = 256; learn 1 1 = 0; learn 2 1 = 0; learn 3 1 = 0; learn 4 1 = 0; learn 5 1 = 0;"
                + "learn 6 1 = 0; learn 7 1 = 0; learn 8 1 = 0; count 3 = 9; stories = 1; story 0 = 511");
    }

    private static void wish() {
        String words = "-5, -2 likewise.";
        String wrong = "wish 4 1 = -2; wish -1 1 = -2; wish MAX -1 = -2; wish MIN 0 = -2; wish 0 2 = -2; wish 0 -2 = -2;"
                + "wish 0 MAX = -2; wish 0 MIN = -2;";
        Sentence.holds(68, words, "wish 0 1 = -2; wish 0 -1 = -2", ">kitchen;", "wish 0 0 = -2", ">" + K, wrong);
        Sentence.stays(68, words, QUIET, wrong);
        Sentence.holds(68, "Of a CLAIM is WANTED that it be so (1), not (0), nothing (NONE) from now on: what was.", ">" + NINE,
                "wish 8 0 = -1; wish 8 0 = 0; claim 8 5 = 0; stories = 256; story 255 = 255; count 4 = 1; wish 8 1 = 0; claim 8 5 = 1;"
                + "story 0 = 256; wish 8 -1 = 1; claim 8 5 = -1; stories = 512; count 4 = 0; wish 8 -1 = -1; wish 9 -1 = -2; wish 0 1 = -1;"
                + "wish 1 0 = -1; count 4 = 2; stories = 128; wish 0 0 = 1; wish 0 -1 = 0; claim 1 5 = 0; stories = 256");
    }

    private static void price() {
        String words = "-2: there are none such.";
        String wrong = "price 4 1 1 = -2; price -1 1 1 = -2; price MAX 1 1 = -2; price MIN 1 1 = -2; price 0 0 1 = -2; price 0 4 1 = -2;"
                + "price 0 -1 1 = -2; price 0 MAX 1 = -2; price 0 MIN 1 = -2; price 0 1 -1 = -2; price 0 1 100 = -2; price 0 1 MAX = -2;"
                + "price 0 1 MIN = -2; price 0 2 -1 = -2; price 0 2 101 = -2; price 0 2 MIN = -2; price 0 3 -2 = -2; price 0 3 100 = -2;"
                + "price 0 3 MIN = -2; price 0 3 MAX = -2;";
        Sentence.holds(69, words, "price 0 1 1 = -2", ">kitchen;", "price 0 1 1 = -2", ">" + K, wrong);
        Sentence.stays(69, words, QUIET, wrong);
        Sentence.stays(69, words, RICH, wrong);
        Sentence.holds(69, "what 1: cost, 2: found, 3: owns is n (0 .. 99; found 0 .. 100; owns NONE, too) from now on: what it was.",
                ">" + NINE, "price 8 1 99 = 1; price 8 1 0 = 99; claim 8 1 = 0; price 8 2 100 = 1; price 8 2 99 = 100; price 8 2 0 = 99;"
                + "claim 8 2 = 0; price 8 3 99 = -1; price 8 3 0 = 99; claim 8 3 = 0; price 8 3 -1 = 0; claim 8 3 = -1; price 8 3 -1 = -1;"
                + "price 9 1 1 = -2; claim 7 1 = 1; claim 7 2 = 1; claim 7 3 = -1; costs 255 = 0; costs 127 = 1; price 7 1 98 = 1;"
                + "costs 127 = 98; costs 0 = 105; own 8 = -1; price 8 3 5 = -1; own 8 = 5");
    }

    private static void whenSomethingWasSaid() {
        Sentence.holds(67, "-5: something was said;", ">" + K, "say 0 0 = 1; learn 0 1 = -5; learn 0 0 = -5; learn 3 0 = -5; claim 3 4 = 1;"
                + "learn 4 0 = -2; learn 0 2 = -2; unsay = 0; learn 0 1 = 0; learn 0 0 = 1; say 0 0 = 1; anew = 1; learn 3 0 = 1");
        Sentence.stays(67, "-5: something was said;", RICH, "learn 0 0 = -5; learn 0 1 = -5; learn 3 0 = -5; learn 3 1 = -5;"
                + "learn 4 1 = -2; learn 0 2 = -2");
        Sentence.holds(68, "-5, -2 likewise.", ">" + K, "say 0 0 = 1; wish 0 1 = -5; wish 0 -1 = -5; wish 1 0 = -5; claim 0 5 = 0;"
                + "wish 4 0 = -2; wish 0 2 = -2; unsay = 0; wish 0 1 = 0; wish 0 0 = 1; say 0 0 = 1; anew = 1; wish 0 -1 = 0");
        Sentence.stays(68, "-5, -2 likewise.", RICH, "wish 0 0 = -5; wish 0 1 = -5; wish 0 -1 = -5; wish 3 1 = -5; wish 4 0 = -2;"
                + "wish 0 2 = -2; wish 0 -2 = -2");
        // Prices may change then: nothing is refused.
        Sentence.holds(69, "from now on: what it was.", ">" + K, "say 0 0 = 1; price 0 1 50 = 5; costs 4 = 50; count 7 = 1; left = 1");
    }

    private static void count() {
        Sentence.holds(70, "NONE for others.", "count -1 = -1; count 9 = -1; count MIN = -1; count MAX = -1; count 0 = 0; count 8 = 0",
                ">" + K, "count -1 = -1; count 9 = -1; count 8 = 0; count 0 = 4");
        Sentence.holds(70, "0 CLAIMS, 1 LAWS, 2 PEOPLE, 3 CLAIMS that are KNOWN, 4 of which something is WANTED, 5 LINES, 6 bytes of "
                + "the TAPE, 7 said, 8 SLOTS that have a row.", ">" + K, "count 0 = 4; count 1 = 3; count 2 = 3; count 3 = 1;"
                + "count 4 = 1; count 5 = 13; count 6 = 0; count 7 = 0; count 8 = 0; learn 0 1 = 0; count 3 = 2; wish 0 -1 = 0;"
                + "count 4 = 0; learn 0 0 = 1; say 1 1 = 2; count 7 = 1; feed 0 0 0 0 0 = 20; count 6 = 20; end 7 = 7; count 6 = 7;"
                + "row 3 0 0 = 0; count 8 = 1; row 3 1 5 = 0; count 8 = 1; row 0 3 60 = 0; count 8 = 2; row 1 0 1 = 0; row 2 0 1 = 0;"
                + "count 8 = 4; row 2 0 61 = -2; count 8 = 4; count 5 = 13");
        Sentence.stays(70, "NONE for others.", RICH, "count 9 = -1; count -1 = -1; count 3 = ?");
    }

    private static void keepAndBack() {
        Sentence.holds(71, "-2: no such k.", "keep 3 = -2; keep -1 = -2; keep MAX = -2; keep MIN = -2; back 0 = -6; back 2 = -6", ">" + K,
                "keep 3 = -2; keep -1 = -2; keep 0 = 0; keep 2 = 0; back 1 = -6; keep 1 = 0; back 1 = 0");
        Sentence.stays(71, "-2: no such k.", RICH, "keep 3 = -2; keep -1 = -2; keep MIN = -2; keep MAX = -2");
        Sentence.holds(72, "-2: no such k; -6: it has nothing.", "back 3 = -2; back -1 = -2; back MAX = -2; back MIN = -2; back 0 = -6;"
                + "back 1 = -6; back 2 = -6", ">" + K, "back 0 = -6; keep 1 = 0; back 0 = -6; back 1 = 0; back 2 = -6; back 3 = -2");
        // RICH has images 0 and 2.
        Sentence.stays(72, "-2: no such k; -6: it has nothing.", RICH, "back 3 = -2; back -1 = -2; back 1 = -6; back MAX = -2;"
                + "back MIN = -2");
    }

    private static void allOfAnImage() {
        Sentence.holds(71, "IMAGE k (0 .. 2) keeps the KITCHEN, what was said, too: 0.", ">" + K, "say 1 1 = 1; say 0 0 = 1; keep 0 = 0;"
                + "anew = 2; learn 3 0 = 1; wish 0 1 = 0; price 0 1 9 = 5; price 0 2 9 = 10; price 0 3 9 = 7", ">" + TWO,
                "say 0 0 = 2; back 0 = 0; count 0 = 4; count 1 = 3; count 2 = 3; count 3 = 1; count 4 = 1; count 5 = 13; count 7 = 2;"
                + "said 0 = 3; said 1 = 0; claim 3 4 = 1; claim 0 5 = 0; claim 0 1 = 5; claim 0 2 = 10; claim 0 3 = 7; truth = 5;"
                + "law 0 0 = 3; law 1 0 = 10; law 1 1 = 4; law 2 1 = 6; law 3 0 = -2; person 0 0 = 9; person 0 1 = 3; person 2 1 = 9;"
                + "stories = 1; story 0 = 2; left = 1; lied = 3; unsay = 1; said 1 = -1");
        Sentence.holds(72, "It is as IMAGE k has it: 0.", ">" + NINE, "keep 2 = 0; say 0 0 = 256; back 2 = 0; count 7 = 0; left = 512;"
                + "say 0 1 = 256; keep 2 = 0; say 1 1 = 128; back 2 = 0; left = 256; said 1 = -1; said 0 = 1; back 2 = 0; said 0 = 1");
        // The tape, the fault, the slots and the other images are no part of it.
        Sentence.holds(72, "It is as IMAGE k has it: 0.", ">" + K, "keep 0 = 0", "<kitchen;known 0;", "kitchen = -4; row 2 0 2 = 0;"
                + "write 2 0 1 = 0; write 2 1 1 = 0; back 0 = 0; fault 0 = 2; fault 1 = 14; count 6 = 16; count 8 = 1; fits 2 = 2;"
                + "back 1 = -6");
    }

    private static void imagesAreApart() {
        Sentence.holds(71, "IMAGE k (0 .. 2) keeps", ">" + ONE, "keep 0 = 0", ">" + TWO, "keep 1 = 0", ">" + NINE, "keep 2 = 0; back 0 = 0;"
                + "count 0 = 1; back 1 = 0; count 0 = 2; back 2 = 0; count 0 = 9; back 0 = 0; price 0 1 77 = 1; back 1 = 0; claim 0 1 = 1;"
                + "back 0 = 0; claim 0 1 = 1; price 0 1 78 = 1; keep 1 = 0; back 2 = 0; claim 0 1 = 1; back 1 = 0; count 0 = 1;"
                + "claim 0 1 = 78; back 0 = 0; claim 0 1 = 1; keep 0 = 0; keep 0 = 0; back 0 = 0; count 0 = 1");
        Sentence.stays(71, "IMAGE k (0 .. 2) keeps", new String[] {">" + K, "say 0 0 = 1; keep 1 = 0"}, "keep 1 = 0; back 1 = 0");
    }

    private static void imageOfNoKitchen() {
        Sentence.holds(71, "IMAGE k (0 .. 2) keeps the KITCHEN", "keep 0 = 0; back 0 = 0; truth = -2", ">" + ONE, "back 0 = 0; truth = -2;"
                + "count 0 = 0; count 5 = 0; said 0 = -2; stories = -2");
    }

    private static void row() {
        Sentence.holds(73, "A SLOT (0 .. 3) has a row of n numbers of a WIDTH, all 0 (in place of another one): 0.", ">" + NINE,
                "row 0 0 0 = 0; row 0 1 1 = 0; row 3 2 59 = 0; row 3 3 60 = 0; count 8 = 2; write 3 59 1 = 0; write 3 60 1 = -7;"
                + "row 3 0 2 = 0; write 3 1 1 = 0; write 3 2 1 = -7; row 3 0 0 = 0; write 3 0 1 = -7; count 8 = 2");
        Sentence.holds(TERMS, "SLOTS 0 .. 3 have rows of numbers of 1, 2, 4 or 8 bytes (WIDTH 0 .. 3), at most 60, or nothing.",
                "row 0 0 60 = 0; row 1 1 60 = 0; row 2 2 60 = 0; row 3 3 60 = 0; row 4 0 60 = -2; row 0 4 60 = -2; row 0 0 61 = -2;"
                + "count 8 = 4; write 0 59 1 = 0; write 1 59 1 = 0; write 2 59 1 = 0; write 3 59 1 = 0; paste 0 0 1 0 60 = -8;"
                + "paste 0 0 0 0 60 = 0; paste 3 0 3 0 60 = 0");
    }

    private static void rowRefused() {
        String words = "-2: there is no such SLOT or WIDTH (0 .. 3), or n is above 60; -3, and the SLOT stays: n is below 0.";
        String wrong = "row 4 0 1 = -2; row -1 0 1 = -2; row MAX 0 1 = -2; row MIN 0 1 = -2; row 0 4 1 = -2; row 0 -1 1 = -2;"
                + "row 0 MAX 1 = -2; row 0 MIN 1 = -2; row 0 0 61 = -2; row 0 0 MAX = -2; row 3 0 61 = -2; row 3 4 1 = -2; row 0 0 -1 = -3;"
                + "row 0 0 MIN = -3; row 1 3 -1 = -3; row 2 0 -1 = -3; row 3 0 -1 = -3; row 4 0 -1 = -2; row 0 4 -1 = -2; row -1 -1 -1 = -2;";
        Sentence.holds(73, words, wrong + "count 8 = 0; write 0 0 0 = -6");
        Sentence.stays(73, words, RICH, wrong);
        Sentence.stays(73, words, new String[] {"row 0 1 60 = 0; write 0 59 3 = 0; write 0 0 8 = 0"}, wrong);
    }

    private static void rowIsAllZero() {
        for (int width = 0; width < 4; width++) {
            Sentence.holds(73, "all 0 (in place of another one)", ">" + NINE, "row 1 " + width + " 4 = 0; write 1 0 8 = 0; write 1 1 1 = 0;"
                    + "write 1 2 7 = 0; write 1 3 1 = 0; must 1 0 = 384; row 1 " + width + " 4 = 0; must 1 0 = 0; must 1 1 = 1;"
                    + "write 1 3 1 = 0; row 1 " + (3 - width) + " 2 = 0; row 1 " + width + " 4 = 0; judge 1 = 2; must 1 1 = 1");
        }
    }

    private static void write() {
        String words = "-2: there is no such SLOT; -6: it has nothing; -7: there is no such number.";
        Sentence.holds(74, words, "write 0 0 0 = -6; write 0 -1 0 = -6; write 3 99 0 = -6; write 4 0 0 = -2; write -1 0 0 = -2;"
                + "write MAX 0 0 = -2; write MIN 0 0 = -2; row 0 0 0 = 0; write 0 0 0 = -7; write 0 -1 0 = -7; row 0 0 1 = 0; write 0 0 0 = 0;"
                + "write 0 1 0 = -7; write 0 -1 0 = -7; write 0 MAX 0 = -7; write 0 MIN 0 = -7; row 3 3 60 = 0; write 3 59 0 = 0;"
                + "write 3 60 0 = -7; write 3 -1 0 = -7; write 1 0 0 = -6; write 4 60 0 = -2");
        Sentence.stays(74, words, RICH, "write 4 0 1 = -2; write -1 0 1 = -2; write 3 0 1 = -6; write 0 4 1 = -7; write 0 -1 1 = -7;"
                + "write 1 2 1 = -7; write 2 0 1 = -7; write 0 MAX 1 = -7; write 0 MIN 1 = -7");
        Sentence.holds(74, "Number i of the SLOT's row is v", ">" + NINE, "row 0 3 4 = 0; write 0 2 8 = 0; write 0 3 1 = 0; must 0 0 = 256;"
                + "must 0 1 = 1; write 0 2 7 = 0; must 0 0 = 128; write 0 1 1 = 0; must 0 0 = 129; must 0 1 = 0");
    }

    /** A number that is one of 0 .. 8 once it is cut is that claim; the bytes above do not matter. */
    private static void cut() {
        String words = "is v, cut to its WIDTH: 0.";
        int[] bits = {8, 16, 32};
        for (int width = 0; width < 4; width++) {
            for (int shift = 0; shift < 3; shift++) {
                for (long times : new long[] {1, -1, 127, 128, 255, 1L << 30}) {
                    long far = (times << bits[shift]) + 8;
                    boolean same = width < 3 ? far << 64 - (8 << width) >> 64 - (8 << width) == 8 : far == 8;
                    Sentence.holds(74, words, ">" + NINE, "row 0 " + width + " 2 = 0; write 0 1 1 = 0; write 0 0 " + far + " = 0; must 0 0 = "
                            + (same ? 256 : -2) + "; paste 0 0 0 1 1 = 0; write 0 0 0 = 0; write 0 1 " + (far - 7) + " = 0; fits 0 = "
                            + (same ? 256 : -2));
                }
            }
            Sentence.holds(74, words, ">" + NINE, "row 0 " + width + " 2 = 0; write 0 0 -1 = 0; fits 0 = -2; write 0 0 0 = 0; fits 0 = 256;"
                    + "write 0 0 " + Long.MIN_VALUE + " = 0; fits 0 = " + (width < 3 ? 256 : -2) + "; write 0 0 " + Long.MAX_VALUE + " = 0;"
                    + "fits 0 = -2; write 0 0 128 = 0; fits 0 = -2; write 0 0 255 = 0; fits 0 = -2");
        }
    }

    private static void pasteRefused() {
        String words = "-2: there is no such SLOT; -6: one has nothing; -8: they are not of one WIDTH;";
        String wrong = "paste 4 0 0 0 1 = -2; paste -1 0 0 0 1 = -2; paste 0 0 4 0 1 = -2; paste 0 0 -1 0 1 = -2; paste MAX 0 0 0 0 = -2;"
                + "paste 0 0 MIN 0 0 = -2; paste 3 0 4 0 1 = -2; paste 4 0 3 0 1 = -2; paste 4 0 4 0 -1 = -2; paste 0 0 3 0 1 = -6;"
                + "paste 3 0 0 0 1 = -6; paste 3 0 3 0 1 = -6; paste 3 0 3 0 0 = -6; paste 3 -1 1 0 -1 = -6; paste 0 99 3 0 1 = -6;"
                + "paste 0 0 1 0 1 = -8; paste 1 0 0 0 1 = -8; paste 0 0 2 0 0 = -8; paste 0 -1 1 0 1 = -8; paste 0 0 1 0 99 = -8;"
                + "paste 0 0 1 0 -1 = -8;";
        Sentence.holds(75, words, "paste 0 0 1 0 0 = -6; paste 0 0 0 0 0 = -6; paste 0 0 4 0 0 = -2; paste -1 0 0 0 0 = -2");
        Sentence.stays(75, words, RICH, wrong);
        for (int width = 0; width < 4; width++) {
            for (int other = 0; other < 4; other++) {
                Sentence.holds(75, words, "row 0 " + width + " 2 = 0; row 1 " + other + " 2 = 0; paste 0 0 1 0 1 = " + (width == other ? 0 : -8)
                        + "; paste 1 0 0 0 2 = " + (width == other ? 0 : -8) + "; paste 0 0 1 0 3 = " + (width == other ? -7 : -8));
            }
        }
    }

    private static void pasteBeyond() {
        String words = "-7, and nothing happens: some are beyond their rows, or a place or n is below 0.";
        String[] rows = {">" + NINE, "row 0 0 4 = 0; row 1 0 2 = 0; write 0 0 8 = 0; write 0 1 1 = 0; write 0 2 7 = 0; write 0 3 1 = 0;"
            + "row 2 0 0 = 0"};
        Sentence.stays(75, words, rows, "paste 0 0 1 0 3 = -7; paste 0 3 1 0 2 = -7; paste 0 4 1 0 1 = -7; paste 0 0 1 2 1 = -7;"
                + "paste 0 0 1 1 2 = -7; paste 0 -1 1 0 1 = -7; paste 0 0 1 -1 1 = -7; paste 0 0 1 0 -1 = -7; paste 0 -1 1 0 0 = -7;"
                + "paste 0 0 1 -1 0 = -7; paste 0 MIN 1 0 1 = -7; paste 0 0 1 MIN 1 = -7; paste 0 0 1 0 MIN = -7; paste 0 MAX 1 0 1 = -7;"
                + "paste 0 0 1 MAX 1 = -7; paste 0 0 1 0 MAX = -7; paste 0 MAX 1 MAX MAX = -7; paste 0 1 1 1 MAX = -7; paste 1 0 0 0 3 = -7;"
                + "paste 2 0 0 0 1 = -7; paste 0 0 2 0 1 = -7; paste 0 1 0 2 3 = -7; paste 0 2 0 0 3 = -7; paste 0 0 0 0 5 = -7;"
                + "paste 0 4 0 4 1 = -7; paste 0 5 0 -5 0 = -7");
        // None at all are beyond their rows up to the rows' ends.
        Sentence.stays(75, words, rows, "paste 0 0 1 0 0 = 0; paste 0 4 1 2 0 = 0; paste 2 0 2 0 0 = 0; paste 0 0 0 0 4 = 0;"
                + "paste 0 1 0 1 3 = 0");
        Sentence.stays(75, words, new String[] {"row 0 3 60 = 0; row 1 3 60 = 0; write 0 59 5 = 0"}, "paste 0 0 1 1 60 = -7;"
                + "paste 0 1 1 0 60 = -7; paste 0 0 1 0 61 = -7; paste 0 59 1 59 2 = -7; paste 0 60 1 0 1 = -7; paste 0 0 1 60 1 = -7");
    }

    private static void paste() {
        String words = "So many numbers of a SLOT's row, from one on, are put to another one's (or its own), from one on";
        Sentence.holds(75, words, ">" + NINE, "row 0 1 60 = 0; row 3 1 60 = 0; write 0 58 8 = 0; write 0 59 1 = 0; paste 0 0 3 0 60 = 0;"
                + "must 3 0 = 256; must 0 0 = 256; write 0 58 7 = 0; must 3 0 = 256; must 0 0 = 128; paste 0 58 3 56 2 = 0; must 3 0 = 384;"
                + "must 3 1 = 1; row 3 1 2 = 0; paste 0 58 3 0 2 = 0; must 3 0 = 128; paste 0 0 3 1 1 = 0; must 3 0 = 0; must 3 1 = 128");
    }

    /** Its own numbers, put over themselves both ways, come as they were ahead of the call. */
    private static void pasteAsTheyWere() {
        for (int width = 0; width < 4; width++) {
            String row = "row 0 " + width + " 6 = 0; row 1 " + width + " 2 = 0; write 1 1 1 = 0;";
            StringBuilder fill = new StringBuilder(row);
            for (int i = 0; i < 6; i++) {
                fill.append("write 0 ").append(i).append(" ").append(i + 1).append(" = 0;");
            }
            Sentence.holds(75, "as they were: 0.", ">" + NINE, fill + "paste 0 0 0 1 5 = 0;" + seen(1, 1, 2, 3, 4, 5), fill
                    + "paste 0 1 0 0 5 = 0;" + seen(2, 3, 4, 5, 6, 6), fill + "paste 0 0 0 3 3 = 0;" + seen(1, 2, 3, 1, 2, 3), fill
                    + "paste 0 0 0 2 4 = 0;" + seen(1, 2, 1, 2, 3, 4), fill + "paste 0 2 0 0 3 = 0;" + seen(3, 4, 5, 4, 5, 6));
        }
    }

    private static String seen(int... numbers) {
        StringBuilder calls = new StringBuilder();
        for (int i = 0; i < numbers.length; i++) {
            calls.append("paste 0 ").append(i).append(" 1 0 1 = 0; must 1 0 = ").append(1 << numbers[i]).append(";");
        }
        return calls.toString();
    }
}
