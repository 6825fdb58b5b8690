/** Promises 56 to 66 at their edges: witnesses, mates, the naive one, evenings. */
public final class EdgesOfPeopleTest {
    private static final int TERMS = Sentence.TERMS;
    private static final String ONE = Sentence.ONE;
    private static final String NINE = Sentence.NINE;
    private static final String K = Sentence.K;
    private static final String IMPOSSIBLE = Sentence.IMPOSSIBLE;
    private static final String[] RICH = Sentence.RICH;
    /** Six people; each claim but 6, 7 and 8 is known by one of them. */
    private static final String SIX = NINE + "person cost 1 knows 0;person cost 2 knows 1;person cost 4 knows 2;"
            + "person cost 8 knows 3;person cost 16 knows 4;person cost 32 knows 5;";
    /** All is known by all, and all must be lied about. */
    private static final String CROWD = NINE.replace("cost 1", "cost 99") + "wants not 0;"
            + "law if not 0 then not 1;law if not 0 then not 2;law if not 0 then not 3;law if not 0 then not 4;"
            + "law if not 0 then not 5;law if not 0 then not 6;law if not 0 then not 7;law if not 0 then not 8;"
            + "person cost 99 knows 0 1 2 3 4 5 6 7 8;".repeat(6);

    public static void main(String[] args) {
        witnesses();
        mates();
        mated();
        quiet();
        fewAndWhom();
        slips();
        naive();
        change();
        draws();
        evenings();
        drawnRefused();
        luck();
        withoutAKitchen();
        Sentence.eachOf(56, 66);
        Check.finish();
    }

    private static void witnesses() {
        String words = "-2: there is no such STORY, no KITCHEN.";
        Sentence.holds(56, words, "witnesses 0 = -2", ">kitchen;", "witnesses 0 = 0; witnesses 1 = -2; witnesses -1 = -2", ">" + SIX,
                "witnesses 0 = 63; witnesses 511 = 0; witnesses 512 = -2; witnesses -1 = -2; witnesses MAX = -2; witnesses MIN = -2");
        Sentence.holds(56, "WITNESSES: PEOPLE that know an UNTRUE CLAIM of a STORY, as bits.", ">" + SIX, "witnesses 510 = 1;"
                + "witnesses 479 = 32; witnesses 447 = 0; witnesses 478 = 33", ">" + NINE, "witnesses 0 = 0", ">" + CROWD,
                "witnesses 510 = 63; witnesses 255 = 63; witnesses 511 = 0");
        Sentence.stays(56, words, RICH, "witnesses 16 = -2; witnesses -1 = -2; witnesses 15 = ?");
    }

    private static void mates() {
        Sentence.holds(57, "the least cost of a STORY that HOLDS and of all its WITNESSES, let in, together. NONE: none HOLDS; -2: "
                + "there is no KITCHEN.", "mates = -2", ">" + IMPOSSIBLE, "mates = -1", ">kitchen;", "mates = 0", ">" + SIX,
                "mates = 0; wish 5 0 = -1; mates = 33; wish 0 0 = -1; mates = 35; wish 8 0 = -1; mates = 36", ">" + CROWD,
                "mates = 1485; cheap = 891");
        // A person that knows two lies is paid once.
        Sentence.holds(57, "all its WITNESSES, let in", ">" + NINE + "person cost 50 knows 0 1;wants not 0;wants not 1;", "mates = 52");
    }

    private static void mated() {
        Sentence.holds(58, "The least such STORY. NONE, -2 likewise.", "mated = -2", ">" + IMPOSSIBLE, "mated = -1", ">kitchen;",
                "mated = 0", ">" + SIX, "mated = 511; wish 5 0 = -1; mated = 479", ">" + CROWD, "mated = 0",
                ">" + NINE.replace("cost 1", "cost 0"), "mated = 0", ">" + SIX + "law some not 0 not 1;", "mated = 510;"
                + "price 0 1 2 = 1; mates = 3; mated = 509; price 0 1 3 = 2; mated = 509", ">" + SIX
                + "law some not 0 not 7;law some not 0 not 8;", "mates = 2; mated = 127");
    }

    private static void quiet() {
        String words = "NONE: there is none; -2: there is no such set, no KITCHEN.";
        Sentence.holds(59, words, "quiet 0 = -2", ">kitchen;", "quiet 0 = 0; quiet 1 = -2; quiet -1 = -2", ">" + ONE, "quiet 0 = 0;"
                + "quiet 1 = -2", ">" + IMPOSSIBLE, "quiet 0 = -1; quiet 1 = -2", ">" + SIX, "quiet 0 = 0; quiet 63 = 0; quiet 64 = -2;"
                + "quiet -1 = -2; quiet MAX = -2; quiet MIN = -2; wish 5 0 = -1; quiet 0 = -1; quiet 31 = -1; quiet 32 = 1;"
                + "quiet 63 = 1; wish 0 0 = -1; quiet 32 = -1; quiet 33 = 2", ">" + CROWD, "quiet 63 = 9; quiet 62 = -1; quiet 0 = -1");
        Sentence.holds(59, "QUIET: the fewest UNTRUE CLAIMS of a STORY that HOLDS whose WITNESSES are all of a set (bits).",
                ">" + SIX + "law some not 0 not 7;law some not 0 not 8;", "quiet 0 = 2; quiet 1 = 1; quiet 2 = 2; quiet 3 = 1");
        Sentence.stays(59, words, RICH, "quiet 8 = -2; quiet -1 = -2; quiet 7 = ?; quiet 0 = ?");
    }

    private static void fewAndWhom() {
        Sentence.holds(60, "The fewest PEOPLE that must be let in for some STORY that HOLDS. NONE: none HOLDS; -2 likewise.",
                "few = -2", ">" + IMPOSSIBLE, "few = -1", ">kitchen;", "few = 0", ">" + SIX, "few = 0; wish 5 0 = -1; few = 1;"
                + "wish 8 0 = -1; few = 1; wish 0 0 = -1; few = 2", ">" + CROWD, "few = 6");
        Sentence.holds(61, "Whom, as bits: the least set of so few. NONE, -2 likewise.", "whom = -2", ">" + IMPOSSIBLE, "whom = -1",
                ">kitchen;", "whom = 0", ">" + CROWD, "whom = 63", ">" + SIX, "whom = 0; wish 5 0 = -1; whom = 32",
                ">" + SIX + "law some not 5 not 2 not 4;", "few = 1; whom = 4; learn 2 1 = 0; whom = 16; learn 4 1 = 0; whom = 32;"
                + "learn 5 1 = 0; whom = -1; few = -1");
    }

    private static void slips() {
        String words = "NONE: none HOLDS; -2: there is no such PERSON.";
        Sentence.holds(62, words, "slips 0 = -2", ">kitchen;", "slips 0 = -2", ">" + IMPOSSIBLE + "person cost 1 knows 0;",
                "slips 0 = -1; slips 1 = -2; slips -1 = -2", ">" + CROWD, "slips 0 = 9; slips 5 = 9; slips 6 = -2; slips -1 = -2;"
                + "slips MAX = -2; slips MIN = -2", ">" + SIX, "slips 0 = 0; slips 5 = 0; wish 5 0 = -1; slips 0 = 0; slips 5 = 1");
        Sentence.holds(62, "(UNTRUE CLAIMS of mated() that it knows)", ">" + K, "mated = 2; slips 0 = 2; slips 1 = 1; slips 2 = 1;"
                + "wish 0 -1 = 0; mated = 1; slips 0 = 0; slips 1 = 1; slips 2 = 0");
        Sentence.stays(62, words, RICH, "slips 3 = -2; slips -1 = -2; slips 0 = ?");
    }

    private static void naive() {
        String words = "-2: there are none such, no KITCHEN.";
        Sentence.holds(63, words, "naive 0 = -2; naive 1 = -2; naive 2 = -2", ">" + K, "naive 0 = 2; naive 1 = 2; naive 2 = 1;"
                + "naive 3 = -2; naive -1 = -2; naive MAX = -2; naive MIN = -2");
        Sentence.stays(63, words, RICH, "naive 3 = -2; naive -1 = -2; naive 0 = ?; naive 1 = ?; naive 2 = ?");
        String chain = NINE + "law if not 0 then not 1;law if not 1 then not 2;law if not 2 then not 3;law if not 3 then not 4;"
                + "law if not 4 then not 5;law if not 5 then not 6;law if not 6 then not 7;law if not 7 then not 8;law some not 0;";
        Sentence.holds(63, "what 0: how often something is changed, 1: the STORY at last, 2: 1 if it HOLDS, else 0.", ">kitchen;",
                "naive 0 = 0; naive 1 = 0; naive 2 = 1", ">" + NINE, "naive 0 = 0; naive 1 = 511; naive 2 = 1", ">" + chain,
                "naive 0 = 9; naive 1 = 0; naive 2 = 1; change 0 = 0; change 8 = 8; change 9 = -1; learn 8 1 = 0; naive 0 = 8;"
                + "naive 1 = 256; naive 2 = 0; learn 0 1 = 0; naive 0 = 0; naive 1 = 511; naive 2 = 0; change 0 = -1");
        Sentence.holds(TERMS, "NAIVE: from TRUTH with all that is WANTED as WANTED", ">" + NINE + "wants not 0;wants 1;known 0;",
                "naive 0 = 0; naive 1 = 510; naive 2 = 0");
        Sentence.holds(TERMS, "of the first such its first CLAIM (by number) that is not KNOWN, has nothing WANTED, and was not "
                + "changed yet, is changed", ">" + NINE + "law some not 8 not 6 not 7 not 5;", "naive 0 = 1; change 0 = 5;"
                + "naive 1 = 479; learn 5 1 = 0; change 0 = 6; wish 6 1 = -1; change 0 = 7; wish 7 1 = -1; change 0 = 8;"
                + "naive 1 = 255; learn 8 1 = 0; naive 0 = 0; naive 1 = 511; naive 2 = 0; wish 7 0 = 1; naive 0 = 0; naive 1 = 383;"
                + "naive 2 = 1");
        Sentence.holds(TERMS, "that is not KNOWN, has nothing WANTED", ">" + NINE + "known 0;wants 0;law some not 0;", "naive 0 = 0;"
                + "naive 1 = 511; naive 2 = 0; wish 0 -1 = 1; naive 0 = 0; learn 0 0 = 1; naive 0 = 1; naive 1 = 510; naive 2 = 1");
        Sentence.holds(TERMS, "till none is broken, or that LAW has no such CLAIM.", ">" + NINE + "law some not 0;law some 0 not 1;"
                + "law some 0 1;law some not 2;", "naive 0 = 2; change 0 = 0; change 1 = 1; change 2 = -1; naive 1 = 508;"
                + "breaks 508 = 2; naive 2 = 0");
    }

    private static void change() {
        String words = "NONE: there is none such; -2: there is no KITCHEN.";
        Sentence.holds(64, words, "change 0 = -2; change -1 = -2", ">kitchen;", "change 0 = -1", ">" + K, "change 0 = 1; change 1 = 2;"
                + "change 2 = -1; change -1 = -1; change MAX = -1; change MIN = -1; change 9 = -1; change 8 = -1", ">" + NINE,
                "change 0 = -1; change -1 = -1");
        Sentence.stays(64, words, RICH, "change 5 = -1; change -1 = -1; change 0 = ?");
    }

    /** From seed 0 the first draw is 0, from 1 it is 38; from 128 the first 0 is the 60th draw. */
    private static void draws() {
        String one = NINE.replaceFirst("found 1", "found 38");
        Sentence.holds(TERMS, "a draw: x / 65536, cut, modulo 100.", ">" + one, "drawn 1 510 1 0 = 0; price 0 2 39 = 38;"
                + "drawn 1 510 1 0 = 1; drawn 1 510 1 1 = 0; drawn 1 510 1 2 = 0; price 0 2 0 = 39; drawn 0 510 60 0 = 0;"
                + "price 0 2 1 = 0; drawn 0 510 1 0 = 1; price 0 2 100 = 1; drawn 77 510 1 0 = 1");
        Sentence.holds(TERMS, "x becomes (1103515245 x + 12345) modulo 2,147,483,648 (at first it is the seed)", ">" + NINE,
                "drawn 128 510 59 0 = 0; drawn 128 510 60 0 = 1; drawn 128 510 60 1 = 59; drawn 2000000000 510 60 0 = 0;"
                + "price 0 2 2 = 1; drawn 2000000000 510 21 0 = 0; drawn 2000000000 510 22 0 = 1; drawn 2000000000 510 60 1 = 21;"
                + "price 0 2 3 = 2; drawn 1 510 33 0 = 0; drawn 1 510 34 1 = 33");
    }

    private static void evenings() {
        String words = "day by day, UNTRUE CLAIM by UNTRUE CLAIM (by numbers) that did not come out yet a draw: if it is below found, "
                + "it comes out.";
        Sentence.holds(TERMS, words, ">" + NINE.replace("found 1", "found 5"), "drawn 1 0 3 0 = 0; drawn 1 0 4 0 = 1;"
                + "drawn 1 0 4 1 = 3; drawn 1 0 4 2 = 6; drawn 1 0 10 0 = 3; drawn 1 0 20 0 = 5; drawn 1 0 60 0 = 8;"
                + "drawn 1 0 60 1 = 3; drawn 1 0 60 2 = 6; drawn 2000000000 0 1 0 = 1; drawn 2000000000 0 3 0 = 2;"
                + "drawn 2000000000 0 4 0 = 4; drawn 2000000000 0 20 0 = 7; drawn 2000000000 0 60 0 = 8;"
                + "drawn 2000000000 0 60 1 = 0; drawn 2000000000 0 60 2 = 0");
        Sentence.holds(65, "what 0: how many CLAIMS come out, 1: the first day (from 0) on which one does (NONE), 2: the first CLAIM "
                + "(NONE).", ">" + NINE.replace("found 1", "found 100"), "drawn 5 0 1 0 = 9; drawn 5 0 60 0 = 9; drawn 5 0 1 1 = 0;"
                + "drawn 5 0 1 2 = 0; drawn 5 255 1 2 = 8; drawn 5 255 60 0 = 1; drawn 5 511 60 0 = 0; drawn 5 511 60 1 = -1;"
                + "drawn 5 511 60 2 = -1", ">" + NINE.replace("found 1", "found 0"), "drawn 5 0 60 0 = 0; drawn 5 0 60 1 = -1;"
                + "drawn 5 0 60 2 = -1", ">kitchen;", "drawn 5 0 60 0 = 0; drawn 5 0 60 1 = -1; drawn 5 0 60 2 = -1");
    }

    private static void drawnRefused() {
        String words = "-2: there are none such, no KITCHEN.";
        String wrong = "drawn -1 0 1 0 = -2; drawn 2000000001 0 1 0 = -2; drawn MIN 0 1 0 = -2; drawn MAX 0 1 0 = -2;"
                + "drawn 0 -1 1 0 = -2; drawn 0 16 1 0 = -2; drawn 0 MAX 1 0 = -2; drawn 0 0 0 0 = -2; drawn 0 0 61 0 = -2;"
                + "drawn 0 0 -1 0 = -2; drawn 0 0 MAX 0 = -2; drawn 0 0 MIN 0 = -2; drawn 0 0 1 3 = -2; drawn 0 0 1 -1 = -2;"
                + "drawn 0 0 1 MAX = -2; drawn 0 0 1 MIN = -2;";
        Sentence.holds(65, words, "drawn 0 0 1 0 = -2", ">" + K, wrong + "drawn 0 5 1 0 = 0; drawn 2000000000 5 60 0 = 0;"
                + "drawn 0 15 1 1 = ?; drawn 0 5 1 2 = -1", ">kitchen;", "drawn 0 1 1 0 = -2; drawn 0 0 1 0 = 0");
        Sentence.stays(65, words, RICH, wrong + "drawn 1 2 9 0 = ?");
        Sentence.holds(65, "EVENINGS (VI) of a STORY from a seed (0 .. 2,000,000,000), n (1 .. 60) days", ">" + NINE.replace("found 1",
                "found 5"), "drawn 0 510 1 0 = 1; drawn 2000000000 510 1 0 = 1; drawn 1 510 60 0 = 1; drawn 1 510 1 0 = 0;"
                + "drawn 1999999999 510 1 0 = 0; drawn -1 510 1 0 = -2; drawn 2000000001 510 1 0 = -2; drawn 1 510 0 0 = -2;"
                + "drawn 1 510 61 0 = -2");
        Sentence.holds(65, words, ">" + NINE, "drawn 0 511 60 0 = 0; drawn 0 512 60 0 = -2; drawn 0 0 60 0 = ?; drawn 0 -1 60 0 = -2");
    }

    private static void luck() {
        String words = "-2: there are none such, no KITCHEN.";
        String wrong = "luck -1 1 0 1 = -2; luck 2000000001 1 0 1 = -2; luck MIN 1 0 1 = -2; luck MAX 1 0 1 = -2; luck 0 0 0 1 = -2;"
                + "luck 0 21 0 1 = -2; luck 0 -1 0 1 = -2; luck 0 MAX 0 1 = -2; luck 0 1 16 1 = -2; luck 0 1 -1 1 = -2;"
                + "luck 0 1 0 0 = -2; luck 0 1 0 61 = -2; luck 0 1 0 -1 = -2; luck 0 1 0 MAX = -2;";
        Sentence.holds(66, words, "luck 0 1 0 1 = -2", ">" + K, wrong + "luck 0 1 5 1 = 1; luck 0 20 5 60 = 20; luck 2000000000 20 5 1 = 20",
                ">kitchen;", "luck 0 20 0 60 = 20; luck 0 20 1 60 = -2");
        Sentence.stays(66, words, RICH, wrong + "luck 0 20 2 60 = ?");
        // Of seeds 0 to 19, one lie of 5 in a hundred stays hidden for 20 days from 1, 3, 7, 10, 14, 16, 17, 18.
        Sentence.holds(66, "Of m (1 .. 20) such from seeds, the seed and 1, .., in how many none comes out.",
                ">" + NINE.replace("found 1", "found 5"), "luck 0 1 510 20 = 0; luck 0 2 510 20 = 1; luck 0 18 510 20 = 7;"
                + "luck 0 19 510 20 = 8; luck 0 20 510 20 = 8; luck 1 1 510 20 = 1; luck 16 3 510 20 = 3; luck 16 4 510 20 = 3;"
                + "luck 2000000000 20 510 20 = 8; luck 2000000000 1 510 20 = 0; luck 2000000000 2 510 20 = 1; luck 0 20 0 60 = 0;"
                + "luck 0 20 511 60 = 20");
    }

    private static void withoutAKitchen() {
        Sentence.stays(57, "-2: there is no KITCHEN.", new String[] {"row 1 1 1 = 0", "<kitchen;"}, "witnesses 0 = -2; mates = -2;"
                + "mated = -2; quiet 0 = -2; few = -2; whom = -2; slips 0 = -2; naive 0 = -2; change 0 = -2; drawn 0 0 1 0 = -2;"
                + "luck 0 1 0 1 = -2");
        Sentence.stays(57, "the least cost of a STORY that HOLDS", RICH, "mates = ?; mated = ?; few = ?; whom = ?");
    }
}
