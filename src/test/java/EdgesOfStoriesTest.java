/** Promises 9 to 38 at their edges: stories, clashes, lies, risk, owning, catching. */
public final class EdgesOfStoriesTest {
    private static final int TERMS = Sentence.TERMS;
    private static final String ONE = Sentence.ONE;
    private static final String TWO = Sentence.TWO;
    private static final String NINE = Sentence.NINE;
    private static final String K = Sentence.K;
    private static final String IMPOSSIBLE = Sentence.IMPOSSIBLE;
    private static final String[] RICH = Sentence.RICH;
    /** All are so; a lie about one needs lies about all behind it: 0, 1, 3, 7 .. 511 are sound. */
    private static final String CHAIN = NINE + chain();
    /** Seven wishes that cannot be had together, though any six can. */
    private static final String SEVEN = "kitchen;" + "claim so cost 1 found 1;".repeat(7) + "claim not cost 1 found 1;".repeat(2)
            + "law some not 0 not 1 not 2 7;law some not 7 not 3 not 4 8;law some not 8 not 5 not 6;"
            + "wants 0;wants 1;wants 2;wants 3;wants 4;wants 5;wants 6;";

    public static void main(String[] args) {
        lawsAre();
        storiesAre();
        soundAndHolding();
        truth();
        breaksAndBroken();
        storyArguments();
        costs();
        stories();
        fewestAndTold();
        cheapAndCheaply();
        clash();
        clashed();
        lieNeedsSpread();
        riskRefused();
        riskInLowestTerms();
        safest();
        own();
        owning();
        spares();
        confess();
        apart();
        trusts();
        catches();
        knowing();
        fixed();
        withoutAKitchen();
        nothingChanges();
        Sentence.eachOf(9, 38);
        Check.finish();
    }

    private static String chain() {
        StringBuilder laws = new StringBuilder();
        for (int c = 0; c < 8; c++) {
            laws.append("law if not ").append(c).append(" then not ").append(c + 1).append(";");
        }
        return laws.toString();
    }

    // ---- terms II

    private static void lawsAre() {
        Sentence.holds(TERMS, "some: one of its L at least is as said there", ">" + TWO + "law some 0 not 1;",
                "breaks 0 = -1; breaks 1 = -1; breaks 2 = 0; breaks 3 = -1");
        Sentence.holds(TERMS, "if A then B: A is not, or B is", ">" + TWO + "law if 0 then 1;law if not 0 then not 1;",
                "breaks 0 = -1; breaks 1 = 0; breaks 2 = 1; breaks 3 = -1");
        Sentence.holds(TERMS, "bars A B: one of both is not.", ">" + TWO + "law bars 0 1;law bars not 0 not 1;law bars 0 not 1;",
                "breaks 0 = 1; breaks 1 = 2; breaks 2 = -1; breaks 3 = 0");
    }

    private static void storiesAre() {
        String words = "STORY: 0 .. 2 to the CLAIMS less 1 (bit c: CLAIM c is said to be so).";
        for (int claims = 0; claims < 10; claims++) {
            String text = "kitchen;" + "claim not cost 1 found 1;".repeat(claims);
            int last = (1 << claims) - 1;
            StringBuilder bits = new StringBuilder();
            for (int c = 0; c < claims; c++) {
                bits.append("wish ").append(c).append(" 1 = -1; holds ").append((2 << c) - 1).append(" = 1; holds ")
                        .append((2 << c) - 1 & ~(1 << c)).append(" = 0;");
            }
            Sentence.holds(TERMS, words, ">" + text, "holds 0 = 1; holds " + last + " = 1; holds " + (last + 1) + " = -2;"
                    + "holds -1 = -2; stories = " + (last + 1) + "; story " + last + " = " + last + "; untrue " + last + " = " + last
                    + ";" + bits + "stories = 1; story 0 = " + last);
        }
    }

    private static void soundAndHolding() {
        Sentence.holds(TERMS, "SOUND: a STORY that breaks no LAW and has what is KNOWN as it is (TRUTH).",
                ">" + TWO + "known 1;", "holds 0 = 1; holds 1 = 1; holds 2 = 0; holds 3 = 0; learn 0 1 = 0; holds 0 = 0;"
                + "holds 1 = 1; stories = 1");
        Sentence.holds(TERMS, "HOLDS: SOUND, and all that is WANTED as WANTED.", ">" + TWO + "wants not 0;wants 1;",
                "holds 0 = 0; holds 1 = 0; holds 2 = 1; holds 3 = 0; wish 1 -1 = 1; holds 0 = 1; holds 2 = 1; holds 1 = 0");
        Sentence.holds(TERMS, "HOLDS: SOUND, and all that is WANTED as WANTED.", ">" + TWO + "known 0;wants not 0;"
                + "person cost 1 knows 1;", "stories = 0; story 0 = -1; left = 0; may 0 = 0; may 1 = 0; forced = 0; still = -1;"
                + "knowing 0 = 0; knowing 1 = 0; knowing 2 = 0; fixed 0 = 0; fixed 1 = 0; quiet 0 = -1; quiet 1 = -1; trusts 0 = 0;"
                + "say 0 0 = -5; say 0 1 = -5; say 1 0 = -5; told = -1; cheaply = -1; mated = -1; whom = -1; safest = -1");
        Sentence.holds(TERMS, "(TRUTH need not be SOUND.)", ">" + K, "truth = 5; breaks 5 = 1; holds 5 = 0",
                ">" + IMPOSSIBLE, "truth = 1; breaks 1 = 0; holds 1 = 0");
        Sentence.holds(TERMS, "UNTRUE: a CLAIM that is not as in TRUTH.", ">" + TWO, "untrue 0 = 1; untrue 1 = 0; untrue 2 = 3;"
                + "untrue 3 = 2");
    }

    // ---- promises 9 to 14

    private static void truth() {
        Sentence.holds(9, "TRUTH: the STORY that is so.", ">kitchen;", "truth = 0", ">" + ONE, "truth = 1", ">" + TWO,
                "truth = 1", ">" + NINE, "truth = 511", ">" + NINE.replace("so", "not"), "truth = 0");
        Sentence.holds(9, "-2: there is no KITCHEN.", "truth = -2", ">" + ONE, "truth = 1; end 0 = 0; kitchen = 0; truth = -2");
    }

    private static void breaksAndBroken() {
        String fifteen = ONE + "law some 0;".repeat(15) + "law some not 0;";
        Sentence.holds(10, "The first LAW that a STORY breaks. NONE: none;", ">" + ONE, "breaks 0 = -1; breaks 1 = -1",
                ">" + fifteen, "breaks 0 = 0; breaks 1 = 15", ">" + ONE + "law some 0 not 0;", "breaks 0 = -1; breaks 1 = -1");
        Sentence.holds(11, "How many it breaks.", ">" + ONE, "broken 0 = 0", ">" + fifteen, "broken 0 = 15; broken 1 = 1",
                ">" + ONE + "law some 0;".repeat(16), "broken 0 = 16; broken 1 = 0");
    }

    /** Each call of a story alone: 0 and the last are allowed, the ones beside these not. */
    private static void storyArguments() {
        String[] calls = {"breaks", "broken", "holds", "untrue", "costs"};
        String[] words = {"-2: there is no such STORY, no KITCHEN.", "-2 likewise.", "-2 likewise.", "-2 likewise.",
            "-2 likewise."};
        for (int i = 0; i < calls.length; i++) {
            String c = calls[i];
            Sentence.holds(10 + i, words[i], c + " 0 = -2; " + c + " -1 = -2", ">kitchen;", c + " 1 = -2; " + c + " -1 = -2",
                    ">" + ONE, c + " 2 = -2; " + c + " -1 = -2; " + c + " MIN = -2; " + c + " MAX = -2; " + c + " 512 = -2",
                    ">" + NINE, c + " 512 = -2; " + c + " -1 = -2; " + c + " 1073741824 = -2");
            Sentence.stays(10 + i, words[i], RICH, c + " 16 = -2; " + c + " -1 = -2; " + c + " 15 = ?");
        }
        Sentence.holds(12, "Whether it HOLDS: 1, 0.", ">kitchen;", "holds 0 = 1", ">" + NINE, "holds 0 = 1; holds 511 = 1",
                ">" + IMPOSSIBLE, "holds 0 = 0; holds 1 = 0");
        Sentence.holds(13, "UNTRUE CLAIMS of it, as bits.", ">kitchen;", "untrue 0 = 0", ">" + NINE, "untrue 0 = 511;"
                + "untrue 511 = 0; untrue 510 = 1; untrue 255 = 256");
        Sentence.holds(10, "NONE: none;", ">kitchen;", "breaks 0 = -1; broken 0 = 0");
    }

    private static void costs() {
        String words = "What it costs (III).";
        Sentence.holds(14, words, ">kitchen;", "costs 0 = 0", ">" + NINE.replace("cost 1", "cost 99"), "costs 0 = 891;"
                + "costs 511 = 0; costs 255 = 99; costs 1 = 792", ">" + NINE.replace("cost 1", "cost 0"), "costs 0 = 0");
        Sentence.holds(TERMS, "A STORY costs the costs of its UNTRUE CLAIMS.", ">" + K, "costs 5 = 0; costs 4 = 5; costs 7 = 3;"
                + "costs 1 = 2; costs 13 = 4; costs 10 = 14; costs 2 = 10");
    }

    // ---- promises 15 to 20

    private static void stories() {
        Sentence.holds(15, "How many STORIES HOLD. -2: there is no KITCHEN.", "stories = -2", ">" + IMPOSSIBLE, "stories = 0",
                ">kitchen;", "stories = 1", ">" + K, "stories = 1", ">" + CHAIN, "stories = 10", ">" + NINE, "stories = 512");
        Sentence.holds(16, "The i-th (from 0) of these. NONE: there is none such;", ">" + CHAIN, "story 0 = 0; story 1 = 1;"
                + "story 2 = 3; story 8 = 255; story 9 = 511; story 10 = -1; story -1 = -1; story MIN = -1; story MAX = -1",
                ">" + NINE, "story 511 = 511; story 512 = -1; story 0 = 0", ">" + IMPOSSIBLE, "story 0 = -1", ">" + K,
                "story 0 = 2; story 1 = -1", ">kitchen;", "story 0 = 0; story 1 = -1");
        Sentence.holds(16, "-2 likewise.", "story 0 = -2; story -1 = -2; story MAX = -2");
        Sentence.stays(16, "NONE: there is none such;", RICH, "story 3 = -1; story -1 = -1; story 2 = 3");
    }

    private static void fewestAndTold() {
        Sentence.holds(17, "The fewest UNTRUE CLAIMS of a STORY that HOLDS. NONE: none HOLDS; -2 likewise.", "fewest = -2",
                ">" + IMPOSSIBLE, "fewest = -1", ">kitchen;", "fewest = 0", ">" + NINE, "fewest = 0", ">" + CHAIN,
                "wish 8 0 = -1; fewest = 1; wish 0 0 = -1; fewest = 9");
        Sentence.holds(18, "The least such STORY. NONE, -2 likewise.", "told = -2", ">" + IMPOSSIBLE, "told = -1", ">kitchen;",
                "told = 0", ">" + NINE, "told = 511", ">" + CHAIN, "wish 8 0 = -1; told = 255; wish 0 0 = -1; told = 0",
                ">" + NINE + "law some not 2 not 5 not 7;", "told = 383");
    }

    private static void cheapAndCheaply() {
        String dear = CHAIN.replace("cost 1", "cost 99");
        Sentence.holds(19, "The least that one costs that HOLDS. NONE, -2 likewise.", "cheap = -2", ">" + IMPOSSIBLE,
                "cheap = -1", ">kitchen;", "cheap = 0", ">" + dear, "cheap = 0; wish 8 0 = -1; cheap = 99; wish 0 0 = -1;"
                + "cheap = 891");
        Sentence.holds(20, "The least such STORY. NONE, -2 likewise.", "cheaply = -2", ">" + IMPOSSIBLE, "cheaply = -1",
                ">kitchen;", "cheaply = 0", ">" + dear, "cheaply = 511; wish 8 0 = -1; cheaply = 255",
                ">" + NINE.replace("cost 1", "cost 0"), "cheap = 0; cheaply = 0", ">" + NINE + "law some not 2 not 5 not 7;",
                "cheaply = 383; price 2 1 0 = 1; cheaply = 507; cheap = 0");
    }

    // ---- promises 21 to 26

    private static void clash() {
        Sentence.holds(21, "NONE: all can; -2 likewise.", "clash = -2; clashed = -2", ">kitchen;", "clash = -1; clashed = -1",
                ">" + NINE, "clash = -1; clashed = -1; wish 0 0 = -1; clash = -1", ">" + K, "clash = -1; clashed = -1");
        Sentence.holds(21, "the fewest CLAIMS of which something is WANTED that cannot be had together by LAWS and what is "
                + "KNOWN.", ">" + ONE + "wants not 0;known 0;", "clash = 1; clashed = 1; learn 0 0 = 1; clash = -1",
                ">" + ONE + "law some not 0;wants 0;", "clash = 1; clashed = 1", ">" + SEVEN, "clash = 7; clashed = 127;"
                + "wish 3 -1 = 1; clash = -1; clashed = -1; wish 3 0 = -1; clash = -1; wish 3 1 = 0; clash = 7; wish 7 0 = -1;"
                + "clash = 4; clashed = 135; wish 8 1 = -1; clash = 3; clashed = 352");
        Sentence.holds(21, "the fewest CLAIMS", ">" + IMPOSSIBLE, "clash = 0; clashed = 0; wish 0 1 = -1; clash = 0");
    }

    private static void clashed() {
        Sentence.holds(22, "Which, as bits: the least set of so few. NONE, -2 likewise.", "clashed = -2", ">" + NINE
                + "law bars 0 8;law bars 1 2;law bars 3 4;wants 3;wants 4;wants 0;wants 8;", "clash = 2; clashed = 24;"
                + "wish 1 1 = -1; clashed = 24; wish 2 1 = -1; clashed = 6; wish 1 0 = 1; clashed = 24; wish 4 -1 = 1;"
                + "clashed = 257; wish 8 0 = 1; clashed = -1; clash = -1");
    }

    private static void lieNeedsSpread() {
        StringBuilder lie = new StringBuilder();
        StringBuilder needs = new StringBuilder();
        StringBuilder spread = new StringBuilder();
        for (int c = 0; c < 9; c++) {
            lie.append("lie ").append(c).append(" = ").append(9 - c).append(";");
            needs.append("needs ").append(c).append(" = ").append(511 >> c + 1 << c + 1).append(";");
            spread.append("spread ").append(c).append(" = ").append((1 << c) - 1).append(";");
        }
        // What is wanted does not matter here: stories need only be sound.
        Sentence.holds(23, "NONE: none has it so; -2: there is no such CLAIM.", "lie 0 = -2", ">kitchen;", "lie 0 = -2",
                ">" + CHAIN, lie + "lie 9 = -2; lie -1 = -2; lie MAX = -2; lie MIN = -2; wish 8 1 = -1;" + lie
                + "learn 8 1 = 0; lie 8 = -1; lie 0 = -1", ">" + ONE + "known 0;", "lie 0 = -1", ">" + ONE, "lie 0 = 1");
        Sentence.holds(24, "0 without such STORIES. -2 likewise.", "needs 0 = -2", ">kitchen;", "needs 0 = -2", ">" + CHAIN,
                needs + "needs 9 = -2; needs -1 = -2; needs MAX = -2; needs MIN = -2; learn 8 1 = 0; needs 0 = 0; needs 8 = 0",
                ">" + IMPOSSIBLE, "needs 0 = 0", ">" + K, "needs 0 = 6; needs 1 = 4; needs 2 = 0; needs 3 = 0");
        Sentence.holds(32, "NONE: there is none; -2: there is no such CLAIM.", "spread 0 = -2", ">kitchen;", "spread 0 = -2",
                ">" + CHAIN, spread + "spread 9 = -2; spread -1 = -2; spread MAX = -2; spread MIN = -2; learn 8 1 = 0;"
                + "spread 0 = -1; spread 8 = -1", ">" + NINE + "law if not 4 then not 2;law some 4 not 3 not 7;", "lie 4 = 3;"
                + "spread 4 = 363");
    }

    private static void riskRefused() {
        String words = "NONE: its UNTRUE CLAIMS times n are more than nine; -2: there are none such.";
        Sentence.holds(25, words, "risk 0 1 0 = -2", ">" + NINE, "risk 511 1 0 = 0; risk 511 MAX 0 = 0; risk 511 MAX 1 = 1;"
                + "risk 510 9 1 = 1000000000000000000; risk 510 10 0 = -1; risk 510 10 1 = -1; risk 510 MAX 0 = -1;"
                + "risk 504 3 1 = 1000000000000000000; risk 504 4 1 = -1; risk 508 4 1 = 10000000000000000; risk 508 5 0 = -1;"
                + "risk 0 1 1 = 1000000000000000000; risk 0 2 0 = -1; risk 508 1073741824 0 = -1; risk 504 1431655766 1 = -1;"
                + "risk 496 1073741825 0 = -1; risk 508 MAX 1 = -1; risk 1 1 1 = 10000000000000000; risk 1 2 1 = -1");
        Sentence.holds(25, words, ">" + ONE, "risk 0 0 0 = -2; risk 0 -1 0 = -2; risk 0 MIN 0 = -2; risk 1 0 0 = -2;"
                + "risk 2 1 0 = -2; risk -1 1 0 = -2; risk 0 1 2 = -2; risk 0 1 -1 = -2; risk 0 10 2 = -2; risk 2 10 0 = -2;"
                + "risk 0 1 0 = 1; risk 0 1 1 = 100; risk MIN 1 0 = -2; risk MAX 1 0 = -2; risk 0 1 MAX = -2");
        Sentence.stays(25, words, RICH, "risk 2 4 0 = -1; risk 2 0 0 = -2; risk 16 1 0 = -2; risk 2 1 2 = -2; risk 2 1 0 = 16");
    }

    private static void riskInLowestTerms() {
        String words = "FRACTIONS are told in lowest terms (0 / 1).";
        Sentence.holds(TERMS, words, ">" + K, "risk 5 1 0 = 0; risk 5 1 1 = 1; risk 13 9 0 = 0; risk 13 9 1 = 1; risk 1 1 0 = 1;"
                + "risk 1 1 1 = 2; risk 4 1 0 = 1; risk 4 1 1 = 10; price 0 2 100 = 10; risk 4 9 0 = 1; risk 4 9 1 = 1;"
                + "price 0 2 99 = 100; risk 4 1 0 = 99; risk 4 1 1 = 100; risk 4 2 0 = 9999; risk 4 2 1 = 10000");
        Sentence.holds(25, "RISK: the chance that some UNTRUE CLAIM of a STORY comes out in n (1 and above) days, above (what "
                + "0), below (1).", ">" + NINE, "risk 0 1 0 = 86482752516359101; risk 510 9 0 = 86482752516359101;"
                + "risk 508 1 0 = 199; risk 508 1 1 = 10000; risk 510 2 0 = 199; risk 510 2 1 = 10000",
                ">" + NINE.replace("found 1", "found 99"), "risk 0 1 0 = 999999999999999999; risk 0 1 1 = 1000000000000000000",
                ">" + NINE.replace("found 1", "found 100"), "risk 0 1 0 = 1; risk 0 1 1 = 1",
                ">" + NINE.replace("found 1", "found 50"), "risk 0 1 0 = 511; risk 0 1 1 = 512");
    }

    private static void safest() {
        Sentence.holds(26, "NONE: none HOLDS; -2: there is no KITCHEN.", "safest = -2", ">" + IMPOSSIBLE, "safest = -1",
                ">kitchen;", "safest = 0", ">" + NINE, "safest = 511");
        Sentence.holds(26, "the least of several.", ">" + NINE.replace("found 1", "found 0"), "safest = 0",
                ">" + NINE.replace("found 1", "found 100") + "wants not 8;", "safest = 0; price 8 2 99 = 100; safest = 255",
                ">" + NINE + "law some not 2 not 5 not 7;", "safest = 383; price 5 2 0 = 1; safest = 479");
        // One lie that is found 19 in 100 is as risky as two of 10 each; at 20 the two are safer.
        Sentence.holds(26, "SAFEST: the STORY that HOLDS with the least RISK in a day", ">kitchen;claim so cost 1 found 19;"
                + "claim so cost 1 found 10;claim so cost 1 found 10;law some not 0 not 1;law some not 0 not 2;",
                "safest = 1; price 0 2 18 = 19; safest = 6; price 0 2 20 = 18; safest = 1; price 1 2 11 = 10; safest = 1;"
                + "price 0 2 19 = 20; safest = 6");
    }

    // ---- promises 27 to 31

    private static void own() {
        String words = "NONE: it can't be owned to, none HOLDS then; -2: there is no such CLAIM.";
        Sentence.holds(27, words, "own 0 = -2", ">kitchen;", "own 0 = -2", ">" + K, "own 0 = 9; own 1 = -1; own 2 = -1;"
                + "own 3 = 10; own 4 = -2; own -1 = -2; own MAX = -2; own MIN = -2; price 1 3 0 = -1; own 1 = -1", ">" + NINE,
                "own 8 = -1; own 9 = -2; price 8 3 99 = -1; own 8 = 99; price 8 3 0 = 99; own 8 = 0", ">" + IMPOSSIBLE,
                "own 0 = -1; price 0 3 0 = -1; own 0 = -1; learn 0 0 = 1; own 0 = -1");
        Sentence.holds(TERMS, "OWN: the CLAIM (owns is told) is KNOWN then, nothing is WANTED of it any more; its owns, and the "
                + "least that a STORY costs that HOLDS so.", ">" + CHAIN.replace("found 1", "found 1 owns 5") + "wants not 8;"
                + "wants not 4;", "cheap = 5; own 8 = -1; own 4 = 6; own 0 = 10; wish 4 -1 = 0; own 8 = 5; own 7 = 6;"
                + "cheap = 1");
        Sentence.stays(27, words, RICH, "own 4 = -2; own -1 = -2; own 1 = -1; own 2 = -1; own 0 = ?");
    }

    private static void owning() {
        String wanted = "kitchen;" + "claim so cost 9 found 1 owns 4;".repeat(2) + "wants not 0;wants not 1;";
        Sentence.holds(28, "The CLAIM by which that is least, if less than cheap() (or none HOLDS else), the first of several.",
                ">" + wanted, "cheap = 18; own 0 = 13; own 1 = 13; owning = 0; price 1 3 3 = 4; owning = 1; price 1 3 8 = 3;"
                + "owning = 0; price 0 3 9 = 4; owning = 1; price 1 3 9 = 8; own 1 = 18; owning = -1; price 1 3 -1 = 9;"
                + "owning = -1; price 0 3 8 = 9; owning = 0; price 0 3 -1 = 8; owning = -1");
        Sentence.holds(28, "(or none HOLDS else)", ">" + ONE + "wants not 0;known 0;", "cheap = -1; owning = -1;"
                + "price 0 3 99 = -1; own 0 = 99; owning = 0", ">" + NINE + "law some 8;wants not 8;", "cheap = -1; owning = -1;"
                + "price 8 3 99 = -1; owning = 8; own 8 = 99; price 0 3 0 = -1; own 0 = -1; owning = 8");
        Sentence.holds(28, "NONE: none; -2: there is no KITCHEN.", "owning = -2", ">kitchen;", "owning = -1", ">" + NINE,
                "owning = -1", ">" + IMPOSSIBLE, "price 0 3 0 = -1; owning = -1");
    }

    private static void spares() {
        String words = "-100: none HOLDS now, or then, it can't be owned to; -200: there is no such CLAIM.";
        Sentence.holds(29, words, "spares 0 = -200; spares -1 = -200", ">kitchen;", "spares 0 = -200", ">" + K, "spares 0 = 2;"
                + "spares 1 = -100; spares 2 = -100; spares 3 = 0; spares 4 = -200; spares -1 = -200; spares MAX = -200;"
                + "spares MIN = -200; price 1 3 5 = -1; spares 1 = -100", ">" + IMPOSSIBLE, "price 0 3 1 = -1; spares 0 = -100",
                ">" + ONE.replace("found 1", "found 1 owns 1") + "known 0;wants not 0;", "fewest = -1; own 0 = 1; spares 0 = -100");
        Sentence.holds(29, "How many UNTRUE CLAIMS fewer (below 0: more) the fewest are then.",
                ">" + CHAIN.replace("found 1", "found 1 owns 1") + "wants not 0;", "fewest = 9; spares 0 = 9; spares 8 = -100",
                ">" + NINE.replace("found 1", "found 1 owns 1").replaceFirst("so", "not") + "law if 0 then not 1;"
                + "law if 0 then not 2;law if not 0 then not 3;", "truth = 510; fewest = 1; spares 0 = 0; spares 3 = -2",
                ">" + NINE.replace("found 1", "found 1 owns 1") + "law if 0 then not 1;law if 0 then not 2;", "fewest = 1;"
                + "spares 0 = -1; spares 1 = 0; spares 8 = 0");
        Sentence.stays(29, words, RICH, "spares 4 = -200; spares -1 = -200; spares 1 = -100; spares 0 = ?");
    }

    private static void confess() {
        String all = "wants not 0;wants not 1;wants not 2;wants not 3;wants not 4;wants not 5;wants not 6;wants not 7;"
                + "wants not 8;";
        Sentence.holds(30, "the least that owning to a set of CLAIMS (none of which can not be owned to; the empty one, too) "
                + "costs", ">" + NINE.replace("cost 1 found 1", "cost 99 found 1 owns 98") + all, "confess = 882;"
                + "confessed = 511; price 4 3 -1 = 98; confess = 883; confessed = 495; price 4 1 97 = 99; confess = 881",
                ">" + NINE.replace("cost 1 found 1", "cost 98 found 1 owns 99") + all, "confess = 882; confessed = 0",
                ">" + NINE, "confess = 0; confessed = 0");
        Sentence.holds(30, "NONE: by none; -2: there is no KITCHEN.", "confess = -2; confessed = -2", ">kitchen;", "confess = 0;"
                + "confessed = 0", ">" + IMPOSSIBLE, "confess = -1; confessed = -1; price 0 3 0 = -1; confess = -1",
                ">" + ONE + "known 0;wants not 0;", "confess = -1; confessed = -1; price 0 3 7 = -1; confess = 7; confessed = 1");
        // What is owned to is told as it is: a wish that a story must go against, though it is so, is no way out.
        Sentence.holds(30, "(none of which can not be owned to; the empty one, too)", ">" + ONE + "law some not 0;wants 0;",
                "confess = -1; confessed = -1; price 0 3 5 = -1; confess = -1; confessed = -1; wish 0 0 = 1; confess = 1; confessed = 0");
        Sentence.holds(31, "Which, as bits: the least set by which it is. NONE, -2 likewise.", "confessed = -2",
                ">" + NINE.replace("found 1", "found 1 owns 1") + all, "confess = 9; confessed = 0; price 3 3 0 = 1;"
                + "confess = 8; confessed = 8; price 0 3 0 = 1; confessed = 9; price 1 1 2 = 1; confess = 7; confessed = 11;"
                + "wish 0 -1 = 0; confess = 7; confessed = 10");
    }

    // ---- promises 33 to 38

    private static void apart() {
        String words = "-2: there are none such, one twice.";
        String people = NINE + "person cost 1 knows 0 1 2 8;person cost 1 knows 8 2 3;person cost 1 knows 7;"
                + "person cost 1 knows 0;person cost 1 knows 0;person cost 1 knows 8;";
        Sentence.holds(33, words, "apart 0 1 = -2", ">" + ONE, "apart 0 1 = -2; apart 0 0 = -2", ">" + people,
                "apart 0 1 = 260; apart 1 0 = 260; apart 0 0 = -2; apart 5 5 = -2; apart 0 5 = 256; apart 5 0 = 256;"
                + "apart 0 6 = -2; apart 6 0 = -2; apart 6 6 = -2; apart -1 0 = -2; apart 0 -1 = -2; apart MIN 0 = -2;"
                + "apart 0 MAX = -2; apart 0 2 = 0; apart 3 4 = 1");
        Sentence.holds(33, "CLAIMS that two PEOPLE know both, and that are so in some STORY that is left, not in another one, as "
                + "bits.", ">" + people, "say 2 0 = 256; apart 0 1 = 256; say 8 1 = 128; apart 0 1 = 0; unsay = 1; apart 0 1 = 256;"
                + "anew = 1; apart 0 1 = 260; wish 8 1 = -1; apart 0 1 = 4; learn 2 1 = 0; apart 0 1 = 0",
                ">" + IMPOSSIBLE + "person cost 1 knows 0;person cost 1 knows 0;", "apart 0 1 = 0");
        Sentence.stays(33, words, RICH, "apart 0 3 = -2; apart 3 0 = -2; apart 1 1 = -2; apart -1 0 = -2; apart 0 2 = ?");
    }

    private static void trusts() {
        String words = "-2: there is none such.";
        Sentence.holds(34, words, "trusts 0 = -2", ">" + ONE, "trusts 0 = -2; trusts -1 = -2", ">" + NINE
                + "person cost 1 knows 0 1 2 3 4 5 6 7 8;" + "person cost 1 knows 0;".repeat(5), "trusts 0 = 1; trusts 1 = 256;"
                + "trusts 5 = 256; trusts 6 = -2; trusts -1 = -2; trusts MAX = -2; trusts MIN = -2");
        Sentence.holds(34, "In how many STORIES that are left the UNTRUE CLAIMS that one PERSON knows are none.",
                ">" + NINE + "person cost 1 knows 0 8;", "trusts 0 = 128; say 0 1 = 256; trusts 0 = 128; say 8 0 = 128;"
                + "trusts 0 = 0; unsay = 1; trusts 0 = 128; say 1 0 = 128; trusts 0 = 64; anew = 2; wish 8 0 = -1; trusts 0 = 0",
                ">" + IMPOSSIBLE + "person cost 1 knows 0;", "trusts 0 = 0");
        Sentence.stays(34, words, RICH, "trusts 3 = -2; trusts -1 = -2; trusts 0 = ?");
    }

    private static void catches() {
        Sentence.holds(35, "the fewest CLAIMS that are to be KNOWN besides so that no STORY HOLDS.", ">" + IMPOSSIBLE,
                "catches = 0; caught = 0", ">" + ONE + "wants not 0;", "catches = 1; caught = 1", ">" + NINE
                + "law some not 0 not 3 not 5 not 8;", "catches = 4; caught = 297; learn 3 1 = 0; catches = 3; caught = 289",
                ">" + NINE + "law some not 7 not 8;law some not 1 not 2 not 3;", "catches = 2; caught = 384");
        Sentence.holds(35, "NONE: it is true anyway; -2: there is no KITCHEN.", "catches = -2", ">kitchen;", "catches = -1;"
                + "caught = -1", ">" + NINE, "catches = -1; wish 0 1 = -1; catches = -1; caught = -1; wish 0 0 = 1; catches = 1;"
                + "learn 0 1 = 0; catches = 0; caught = 0");
        Sentence.holds(36, "Which, as bits: the least set of so few. NONE, -2 likewise.", "caught = -2", ">" + CHAIN
                + "wants not 8;", "catches = 1; caught = 256; wish 4 0 = -1; caught = 16; wish 0 0 = -1; caught = 1; wish 8 -1 = 0;"
                + "caught = 1; wish 0 -1 = 0; caught = 16; wish 4 -1 = 0; caught = -1; catches = -1");
    }

    private static void knowing() {
        String words = "-2: there is no such set, no KITCHEN.";
        Sentence.holds(37, words, "knowing 0 = -2", ">kitchen;", "knowing 0 = 1; knowing 1 = -2; knowing -1 = -2", ">" + NINE,
                "knowing 0 = 512; knowing 511 = 1; knowing 512 = -2; knowing -1 = -2; knowing MIN = -2; knowing MAX = -2;"
                + "knowing 1 = 256; knowing 256 = 256; knowing 257 = 128", ">" + K, "knowing 15 = 0; knowing 16 = -2");
        Sentence.holds(37, "How many STORIES would HOLD, were a set of CLAIMS (bits) KNOWN besides.", ">" + CHAIN + "wants not 4;",
                "knowing 0 = 5; knowing 1 = 4; knowing 8 = 1; knowing 16 = 0; knowing 256 = 0; learn 3 1 = 0; knowing 0 = 1;"
                + "knowing 8 = 1; knowing 24 = 0; claim 4 4 = 0; count 3 = 1");
        Sentence.stays(37, words, RICH, "knowing 16 = -2; knowing -1 = -2; knowing 15 = ?; knowing 0 = ?");
    }

    private static void fixed() {
        String words = "-2: there is no such what, no KITCHEN.";
        Sentence.holds(38, words, "fixed 0 = -2; fixed 1 = -2", ">" + K, "fixed 0 = 2; fixed 1 = 13; fixed 2 = -2; fixed -1 = -2;"
                + "fixed MAX = -2; fixed MIN = -2");
        Sentence.holds(38, "as bits; 0 without any.", ">" + IMPOSSIBLE, "fixed 0 = 0; fixed 1 = 0", ">kitchen;", "fixed 0 = 0;"
                + "fixed 1 = 0", ">" + NINE, "fixed 0 = 0; fixed 1 = 0; wish 8 1 = -1; wish 0 0 = -1; fixed 0 = 256; fixed 1 = 1",
                ">" + CHAIN, "wish 8 1 = -1; fixed 0 = 511; fixed 1 = 0; wish 8 -1 = 1; wish 0 0 = -1; fixed 0 = 0; fixed 1 = 511");
        Sentence.holds(38, "CLAIMS that are so in all STORIES that HOLD (what 0), not in all (1)", ">" + TWO
                + "law some 0 1;law bars 0 1;", "stories = 2; fixed 0 = 0; fixed 1 = 0; may 0 = 3; may 1 = 3; forced = 0");
        Sentence.stays(38, words, RICH, "fixed 2 = -2; fixed -1 = -2; fixed 0 = ?");
    }

    private static void withoutAKitchen() {
        String[] none = {"row 0 0 2 = 0", "<kitchen;"};
        Sentence.stays(9, "-2: there is no KITCHEN.", none, "truth = -2; stories = -2; story 0 = -2; fewest = -2; told = -2;"
                + "cheap = -2; cheaply = -2; clash = -2; clashed = -2; lie 0 = -2; needs 0 = -2; risk 0 1 0 = -2; safest = -2;"
                + "own 0 = -2; owning = -2; spares 0 = -200; confess = -2; confessed = -2; spread 0 = -2; apart 0 1 = -2;"
                + "trusts 0 = -2; catches = -2; caught = -2; knowing 0 = -2; fixed 0 = -2");
    }

    /** Questions change nothing, whatever they answer. */
    private static void nothingChanges() {
        Sentence.stays(15, "How many STORIES HOLD.", RICH, "truth = ?; stories = ?; fewest = ?; told = ?; cheap = ?; cheaply = ?;"
                + "clash = ?; clashed = ?; lie 0 = ?; needs 1 = ?; safest = ?; owning = ?; confess = ?; confessed = ?;"
                + "spread 2 = ?; catches = ?; caught = ?; lie 4 = -2; needs 4 = -2; spread 4 = -2");
    }
}
