/** The bounds of a kitchen's text, its faults with their places, and promises 1 to 8. */
public final class EdgesOfTextTest {
    private static final int TERMS = Sentence.TERMS;
    private static final String ONE = Sentence.ONE;
    private static final String TWO = Sentence.TWO;
    private static final String NINE = Sentence.NINE;
    private static final String SIXTEEN = ONE + "law some 0;".repeat(16);
    private static final String SIX = ONE + "person cost 1 knows 0;".repeat(6);

    public static void main(String[] args) {
        firstLine();
        linesEnd();
        claimsAre();
        ownsMayLack();
        amounts();
        literals();
        toldAhead();
        someOf();
        unlikeClaims();
        knownOnce();
        wantsStrikes();
        knowsMany();
        howMany();
        blanks();
        longestTokens();
        wordsAndNumbers();
        firstByItsPlace();
        ofOnePlaceTheLeast();
        cannotStand();
        notAsSaid();
        tooMany();
        fifthLiteral();
        newObject();
        feed();
        feedInOrder();
        end();
        kitchen();
        kitchenFaulty();
        faultAnswers();
        claim();
        law();
        person();
        Sentence.eachOf(TERMS, 8);
        Check.finish();
    }

    // ---- terms I

    private static void firstLine() {
        String words = "kitchen is the first LINE and no other.";
        Sentence.good(words, "kitchen;", 1);
        Sentence.fault(words, "kitchen;kitchen;", 1, 8);
        Sentence.fault(words, ONE + "kitchen;", 1, 32);
        Sentence.fault(words, ONE + "known 0;kitchen", 1, 40);
        Sentence.fault(words, "claim so cost 1 found 1;kitchen;", 1, 0);
        Sentence.fault(words, "law;", 1, 0);
    }

    private static void linesEnd() {
        String words = "KITCHEN: {LINE ;}.";
        Sentence.good(words, "", 0);
        Sentence.good(words, " \n\n ", 0);
        Sentence.good(words, ONE + "known 0;wants 0;", 4);
        Sentence.fault(words, ONE + "known 0", 1, 39);
        Sentence.fault(words, "kitchen", 1, 7);
        Sentence.fault(words, ";", 1, 0);
        Sentence.fault(words, "kitchen;;", 1, 8);
        Sentence.fault(words, ONE + ";", 1, 32);
        Sentence.faultAtLast(words, ONE + "known 0 known", 1);
    }

    private static void ownsMayLack() {
        String words = "claim IS cost N found N [owns N]";
        Sentence.holds(TERMS, words, ">kitchen;claim so cost 2 found 3;claim not cost 4 found 5 owns 6;", "claim 0 1 = 2; claim 0 2 = 3;"
                + "claim 0 3 = -1; claim 1 1 = 4; claim 1 2 = 5; claim 1 3 = 6");
        for (String line : new String[] {"claim cost", "claim so found", "claim so cost 1 owns", "claim so cost 1 ;",
            "claim so cost 1 found 1 owns ;", "claim so cost 1 found 1 owns 1 owns", "claim so owns", "claim so cost 1 found 1 cost"}) {
            Sentence.faultAtLast(words, "kitchen;" + line, 1);
        }
    }

    private static void claimsAre() {
        String words = "IS: so | not.";
        Sentence.holds(TERMS, words, ">" + TWO, "claim 0 0 = 1; claim 1 0 = 0; truth = 1");
        for (String is : new String[] {"is", "1", "0", "cost", "s", "soo", "no", ";"}) {
            Sentence.faultAtLast(words, "kitchen;claim " + is, 1);
        }
    }

    private static String claimOf(int cost, int found, int owns) {
        return "kitchen;claim so cost " + cost + " found " + found + " owns " + owns + ";";
    }

    private static void amounts() {
        String words = "cost, owns 0 .. 99, found 0 .. 100.";
        Sentence.holds(TERMS, words, ">" + claimOf(0, 0, 0), "claim 0 1 = 0; claim 0 2 = 0; claim 0 3 = 0");
        Sentence.holds(TERMS, words, ">" + claimOf(99, 100, 99), "claim 0 1 = 99; claim 0 2 = 100; claim 0 3 = 99");
        Sentence.holds(TERMS, words, ">" + claimOf(98, 99, 1), "claim 0 1 = 98; claim 0 2 = 99; claim 0 3 = 1");
        Sentence.holds(TERMS, words, ">" + ONE + "person cost 0 knows 0;person cost 99 knows 0;",
                "person 0 0 = 0; person 1 0 = 99");
        for (String more : new String[] {"100", "101", "1000", "256", "65536", "2147483647", "2147483648", "4294967295",
            "4294967296", "4294967297", "18446744073709551616", "18446744073709551617"}) {
            Sentence.faultAtLast(words, "kitchen;claim so cost " + more, 2);
            Sentence.faultAtLast(words, "kitchen;claim so cost 1 found 1 owns " + more, 2);
            Sentence.faultAtLast(words, ONE + "person cost " + more, 2);
            if (!more.equals("100")) {
                Sentence.faultAtLast(words, "kitchen;claim so cost 1 found " + more, 2);
            }
        }
        Sentence.faultAtLast(words, "kitchen;claim so cost -", 1);
    }

    private static void literals() {
        String words = "L: C (it is so) or not C.";
        Sentence.holds(TERMS, words, ">" + TWO + "law some 0 not 1;wants 0;wants not 1;",
                "law 0 0 = 1; law 0 1 = 2; claim 0 5 = 1; claim 1 5 = 0");
        for (String line : new String[] {"law some not not", "wants not not", "wants so", "law if so", "law bars so",
            "known not", "person cost 1 knows not", "wants ;", "law some ;", "law some not ;", "wants not ;"}) {
            Sentence.faultAtLast(words, ONE + line, 1);
        }
    }

    /** In each place where a claim stands: the last that was told, and the next one. */
    private static void toldAhead() {
        String words = "C a CLAIM told ahead.";
        String[][] forms = {{"law some ", ";"}, {"law some not ", ";"}, {"law some 0 ", ";"}, {"law some 0 not ", ";"},
            {"law some 0 0 0 ", ";"}, {"known ", ";"}, {"wants ", ";"}, {"wants not ", ";"},
            {"person cost 1 knows ", ";"}, {"person cost 1 knows 0 0 ", ";"}, {"law if ", " then 0;"},
            {"law if not ", " then 0;"}, {"law if 0 then ", ";"}, {"law if 0 then not ", ";"}, {"law bars ", " 0;"},
            {"law bars not ", " 0;"}, {"law bars 0 ", ";"}, {"law bars 0 not ", ";"}};
        for (int claims : new int[] {0, 1, 2, 8, 9}) {
            String told = "kitchen;" + "claim so cost 1 found 1;".repeat(claims);
            for (String[] form : forms) {
                boolean pair = form[0].startsWith("law if") || form[0].startsWith("law bars");
                if (claims > (pair ? 1 : 0)) {
                    Sentence.good(words, told + form[0] + (claims - 1) + form[1], claims + 2);
                }
                // With no claims a 0 ahead of it would be the first fault.
                if (claims > 0 || !form[0].contains("0")) {
                    Sentence.faultAtLast(words, told + form[0] + claims, 2);
                    Sentence.faultAtLast(words, told + form[0] + "4294967296", 2);
                }
            }
        }
        Sentence.fault(words, "kitchen;known 0;claim so cost 1 found 1;", 2, 14);
        Sentence.fault(words, ONE + "wants 1;claim so cost 1 found 1;", 2, 38);
    }

    private static void someOf() {
        String words = "some: one to four L (like ones count once).";
        String five = "kitchen;" + "claim so cost 1 found 1;".repeat(5);
        Sentence.faultAtLast(words, ONE + "law some ;", 1);
        Sentence.fault(words, ONE + "law some", 1, 40);
        Sentence.holds(TERMS, words, ">" + five + "law some 3;", "law 0 0 = 8; law 0 1 = 0; count 1 = 1");
        Sentence.holds(TERMS, words, ">" + five + "law some 3 not 1;", "law 0 0 = 8; law 0 1 = 2; count 1 = 1");
        Sentence.holds(TERMS, words, ">" + five + "law some 0 1 2 not 4;", "law 0 0 = 7; law 0 1 = 16; count 1 = 1");
        Sentence.holds(TERMS, words, ">" + five + "law some 1 1;", "law 0 0 = 2; law 0 1 = 0; breaks 0 = 0; breaks 2 = -1");
        Sentence.holds(TERMS, words, ">" + five + "law some not 1 not 1 not 1;", "law 0 0 = 0; law 0 1 = 2");
        Sentence.holds(TERMS, words, ">" + five + "law some 2 2 2 2;", "law 0 0 = 4; law 0 1 = 0");
        Sentence.holds(TERMS, words, ">" + five + "law some 3 1 3 1;", "law 0 0 = 10; law 0 1 = 0");
        Sentence.holds(TERMS, words, ">" + five + "law some 2 not 2;", "law 0 0 = 4; law 0 1 = 4; stories = 32");
        Sentence.faultAtLast(words, five + "law some 0 1 2 3 4", 3);
        Sentence.faultAtLast(words, five + "law some 2 2 2 2 2", 3);
    }

    private static void unlikeClaims() {
        String words = "if, bars: of unlike CLAIMS.";
        Sentence.good(words, TWO + "law if 0 then 1;law if not 1 then not 0;law bars 1 0;law bars not 0 not 1;", 7);
        for (String not : new String[] {"", "not "}) {
            for (String other : new String[] {"", "not "}) {
                for (int c = 0; c < 2; c++) {
                    Sentence.faultAtLast(words, TWO + "law if " + not + c + " then " + other + c, 2);
                    Sentence.faultAtLast(words, TWO + "law bars " + not + c + " " + other + c, 2);
                }
            }
        }
        Sentence.faultAtLast(words, TWO + "law bars 1 001", 2);
        Sentence.good("some: one to four L", TWO + "law some 0 not 0;", 4);
    }

    private static void knownOnce() {
        String words = "known: none that is already.";
        Sentence.holds(TERMS, words, ">" + TWO + "known 1;known 0;", "claim 0 4 = 1; claim 1 4 = 1; count 3 = 2");
        Sentence.holds(TERMS, words, ">" + TWO, "claim 0 4 = 0; claim 1 4 = 0; count 3 = 0");
        Sentence.faultAtLast(words, TWO + "known 1;known 1", 2);
        Sentence.faultAtLast(words, TWO + "known 1;known 0;wants 1;known 00", 2);
        StringBuilder all = new StringBuilder(NINE);
        for (int c = 8; c >= 0; c--) {
            all.append("known ").append(c).append(";");
        }
        Sentence.holds(TERMS, words, ">" + all, "count 3 = 9; stories = 1; story 0 = 511");
    }

    private static void wantsStrikes() {
        String words = "wants: a later one of that CLAIM strikes.";
        Sentence.holds(TERMS, words, ">" + TWO + "wants 0;wants not 0;wants not 1;wants 1;",
                "claim 0 5 = 0; claim 1 5 = 1; count 4 = 2; count 5 = 7");
        Sentence.holds(TERMS, words, ">" + TWO + "wants 0;wants 1;wants 0;", "claim 0 5 = 1; claim 1 5 = 1; count 4 = 2");
        Sentence.holds(TERMS, words, ">" + TWO + "wants not 1;", "claim 0 5 = -1; claim 1 5 = 0; count 4 = 1");
        Sentence.holds(TERMS, words, ">" + TWO, "claim 0 5 = -1; claim 1 5 = -1; count 4 = 0");
        Sentence.holds(TERMS, words, ">" + ONE + "wants 0;".repeat(190) + "wants not 0;",
                "claim 0 5 = 0; count 4 = 1; count 5 = 193");
    }

    private static void knowsMany() {
        String words = "knows: like ones count once.";
        Sentence.fault(words, ONE + "person cost 1 knows", 1, 51);
        Sentence.faultAtLast(words, ONE + "person cost 1 knows ;", 1);
        Sentence.holds(TERMS, words, ">" + NINE + "person cost 1 knows 8;person cost 1 knows 8 8;"
                + "person cost 1 knows 0 1 2 3 4 5 6 7 8;person cost 1 knows 3 0 3 0 3 0 3 0 3 0 3 0 3 0;",
                "person 0 1 = 256; person 1 1 = 256; person 2 1 = 511; person 3 1 = 9");
        Sentence.holds(TERMS, words, ">" + ONE + "person cost 1 knows" + " 0".repeat(774) + ";", "person 0 1 = 1");
    }

    private static void howMany() {
        String words = "CLAIMS 0 .. 8, LAWS 0 .. 15, PEOPLE 0 .. 5 are numbered as they stand.";
        Sentence.holds(TERMS, words, ">kitchen;", "count 0 = 0; count 1 = 0; count 2 = 0; claim 0 0 = -2; law 0 0 = -2;"
                + "person 0 0 = -2");
        Sentence.holds(TERMS, words, ">" + ONE + "law some 0;person cost 7 knows 0;", "count 0 = 1; count 1 = 1;"
                + "count 2 = 1; claim 0 1 = 1; claim 1 0 = -2; law 0 0 = 1; law 1 0 = -2; person 0 0 = 7; person 1 0 = -2");
        StringBuilder text = new StringBuilder("kitchen;");
        StringBuilder calls = new StringBuilder("count 0 = 9; count 1 = 16; count 2 = 6; count 5 = 32;");
        for (int i = 0; i < 9; i++) {
            text.append("claim so cost ").append(40 + i).append(" found 1;");
            calls.append("claim ").append(i).append(" 1 = ").append(40 + i).append(";");
        }
        for (int i = 0; i < 16; i++) {
            text.append("law some ").append(i < 9 ? "" : "not ").append(i % 9).append(";");
            calls.append("law ").append(i).append(" 0 = ").append(i < 9 ? 1 << i : 0).append(";");
            calls.append("law ").append(i).append(" 1 = ").append(i < 9 ? 0 : 1 << i - 9).append(";");
        }
        for (int i = 0; i < 6; i++) {
            text.append("person cost ").append(60 + i).append(" knows ").append(i).append(";");
            calls.append("person ").append(i).append(" 0 = ").append(60 + i).append(";");
            calls.append("person ").append(i).append(" 1 = ").append(1 << i).append(";");
        }
        Sentence.holds(TERMS, words, ">" + text, calls + "claim 9 0 = -2; law 16 0 = -2; person 6 0 = -2");
    }

    // ---- tokens and faults

    private static void blanks() {
        String words = "TOKENS, blanks (32, 10) aside";
        Sentence.good(words, "\n \nkitchen \n ;\n\n  claim\nso\ncost\n1\nfound\n1\n;  ", 2);
        Sentence.good(words, "kitchen;claim so cost1found1owns1;claim not cost1found1;law if0then not1;", 4);
        for (int b = 0; b < 256; b++) {
            boolean known = b == 10 || b == 32 || b == ';' || b >= 'a' && b <= 'z' || b >= '0' && b <= '9';
            if (!known) {
                Sentence.fault(words, "kitchen" + (char) b + ";", 1, 7);
                Sentence.fault(words, ONE + "known " + (char) b + "0;", 1, 38);
                Sentence.fault(words, ONE + "known 0" + (char) b + ";", 1, 39);
            }
        }
        Sentence.good(words, "kitchen ;", 1);
        Sentence.good(words, "kitchen\n;", 1);
    }

    private static void longestTokens() {
        String words = "the longest: words (a .. z), numbers (digits), the sign ; .";
        Sentence.fault(words, "kitchenclaim;", 1, 0);
        Sentence.fault(words, "kit chen;", 1, 0);
        Sentence.fault(words, "kitchena", 1, 0);
        Sentence.fault(words, "kitchenz", 1, 0);
        Sentence.fault(words, ONE + "knownx 0;", 1, 32);
        Sentence.fault(words, ONE + "know 0;", 1, 32);
        Sentence.fault(words, ONE + "law someif 0;", 1, 36);
        Sentence.fault(words, ONE + "known 00000000000000000001;", 2, 38);
        Sentence.good(words, ONE + "known 00000000000000000000;", 3);
        Sentence.good(words, "kitchen;claim so cost 0099 found 00100 owns 000;", 2);
        Sentence.fault(words, ONE + "known 1 0;", 2, 38);
        Sentence.fault(words, ONE + "known 0 0;", 1, 40);
        Sentence.good(words, ONE + "known0;", 3);
        Sentence.fault(words, "kitchen;claim so cost 10 0 found 1;", 1, 25);
    }

    private static void wordsAndNumbers() {
        String words = "1 a TOKEN that is none, or can't stand there";
        String[] places = {"", "kitchen", "kitchen;", "kitchen;claim", "kitchen;claim so", "kitchen;claim so cost",
            "kitchen;claim so cost 1", "kitchen;claim so cost 1 found", "kitchen;claim so cost 1 found 1",
            "kitchen;claim so cost 1 found 1 owns", "kitchen;claim so cost 1 found 1 owns 1", TWO, TWO + "law",
            TWO + "law some", TWO + "law some not", TWO + "law some 0", TWO + "law some 0 0 0 0", TWO + "law if",
            TWO + "law if not", TWO + "law if 0", TWO + "law if 0 then", TWO + "law if 0 then not",
            TWO + "law if 0 then 1", TWO + "law bars", TWO + "law bars not", TWO + "law bars 0", TWO + "law bars 0 not",
            TWO + "law bars 0 1", TWO + "known", TWO + "known 0", TWO + "wants", TWO + "wants not", TWO + "wants 0",
            TWO + "person", TWO + "person cost", TWO + "person cost 1", TWO + "person cost 1 knows",
            TWO + "person cost 1 knows 0"};
        String[] may = {"kitchen", ";", "claim law known wants person", "so not", "cost", "7", "found", "7", "owns ;", "7",
            ";", "claim law known wants person", "some if bars", "not 0", "0", "not 0 ;", "not 0 ;", "not 0", "0", "then",
            "not 1", "1", ";", "not 0", "0", "not 1", "1", ";", "0", ";", "not 0", "0", ";", "cost", "7", "knows", "0",
            "0 ;"};
        Check.due("places", places.length, may.length);
        String all = "kitchen claim so not cost found owns law some if then bars known wants person knows ; 7 x #";
        for (int i = 0; i < places.length; i++) {
            boolean number = may[i].matches(".*[0-9].*");
            for (String token : all.split(" ")) {
                boolean stands = (" " + may[i] + " ").contains(" " + token + " ") || token.equals("7") && number;
                if (!stands) {
                    String lead = places[i].isEmpty() ? "" : " ";
                    Sentence.fault(words, places[i] + lead + token, 1, places[i].length() + lead.length());
                }
            }
        }
    }

    private static void firstByItsPlace() {
        String words = "FAULTS, the first by its place (a TOKEN's first byte; the end's)";
        Sentence.fault(words, ONE + "known 1;#", 2, 38);
        Sentence.fault(words, ONE + "#known 1;", 1, 32);
        Sentence.fault(words, "kitchen;claim so cost 100 found 101;", 2, 22);
        Sentence.fault(words, "kitchen;claim so cost 99 found 101 owns 100;", 2, 31);
        Sentence.fault(words, "kitchen;claim so cost \n 100", 2, 24);
        Sentence.fault(words, "kitchen;\n\n \nclaims so", 1, 12);
        Sentence.fault(words, NINE + "wants 9;claim", 2, NINE.length() + 6);
        Sentence.fault(words, NINE + "claim so cost 100 #", 3, NINE.length());
        Sentence.fault(words, "kitchen", 1, 7);
        Sentence.fault(words, "kitchen   ", 1, 10);
        Sentence.fault(words, "kitchen\n", 1, 8);
        Sentence.fault(words, ONE + "law if 0 then", 1, 45);
        Sentence.fault(words, " ".repeat(1592) + "kitchen ", 1, 1600);
    }

    private static void ofOnePlaceTheLeast() {
        String words = "of one place the least";
        String four = TWO + "law some 0 1 not 0 not 1";
        Sentence.fault(words, four + " 2;", 2, four.length() + 1);
        Sentence.fault(words, four + " 99999999999;", 2, four.length() + 1);
    }

    private static void cannotStand() {
        String words = "can't stand there (kitchen behind the first LINE, another word ahead of it)";
        for (String word : new String[] {"claim", "law", "known", "wants", "person", "so", "lie", "a", "z", "kitchens"}) {
            Sentence.fault(words, word, 1, 0);
            Sentence.fault(words, " " + word + " kitchen;", 1, 1);
        }
        Sentence.fault(words, ONE + "kitchen", 1, 32);
        Sentence.fault(words, "kitchen kitchen;", 1, 8);
    }

    private static void notAsSaid() {
        String words = "2 a number out of its bounds, not as said (of two at the second).";
        Sentence.fault(words, TWO + "law if 1 then not 1;", 2, TWO.length() + 18);
        Sentence.fault(words, TWO + "law if not 1 then 1;", 2, TWO.length() + 18);
        Sentence.fault(words, TWO + "law bars 1 not 1;", 2, TWO.length() + 15);
        Sentence.fault(words, TWO + "law bars 1 1;", 2, TWO.length() + 11);
        Sentence.fault(words, TWO + "known 1;known 1;", 2, TWO.length() + 14);
        Sentence.fault(words, TWO + "law if 2 then 2;", 2, TWO.length() + 7);
    }

    private static void tooMany() {
        String words = "3 a 10th claim, 17th law, 7th person, at its word";
        Sentence.good(words, NINE, 10);
        Sentence.fault(words, NINE + "claim so cost 1 found 1;", 3, NINE.length());
        Sentence.fault(words, NINE + " \nclaim", 3, NINE.length() + 2);
        Sentence.fault(words, NINE + "claim #", 3, NINE.length());
        Sentence.fault(words, NINE + "claims", 1, NINE.length());
        Sentence.good(words, SIXTEEN, 18);
        Sentence.fault(words, SIXTEEN + "law some 0;", 3, SIXTEEN.length());
        Sentence.fault(words, SIXTEEN + "law", 3, SIXTEEN.length());
        Sentence.fault(words, SIXTEEN + "law some 9;", 3, SIXTEEN.length());
        Sentence.fault(words, TWO + "law if 0 then 1;".repeat(8) + "law bars 0 1;".repeat(8) + "law bars 0 1;", 3,
                TWO.length() + 8 * 29);
        Sentence.good(words, SIX, 8);
        Sentence.fault(words, SIX + "person cost 1 knows 0;", 3, SIX.length());
        Sentence.fault(words, SIX + "person", 3, SIX.length());
        Sentence.good(words, SIX + "law some 0;claim so cost 1 found 1;", 10);
    }

    private static void fifthLiteral() {
        String words = "a fifth L of some, at its first TOKEN.";
        String three = "kitchen;" + "claim so cost 1 found 1;".repeat(3);
        // A fifth is one too many whether it, or one ahead of it, is like another or not.
        for (String four : new String[] {"0 1 not 0 not 1", "0 1 2 not 0", "not 0 not 1 not 2 0", "0 0 0 0", "1 1 not 1 0"}) {
            String law = three + "law some " + four;
            int place = law.length() + 1;
            Sentence.good(words, law + ";", 5);
            for (String fifth : new String[] {"0", "1", "2", "not 0", "not 2", "not", "not;", "not 3", "not so", "not not"}) {
                Sentence.fault(words, law + " " + fifth + ";", 3, place);
                Sentence.fault(words, law + " " + fifth, 3, place);
            }
            Sentence.fault(words, law + " \n not\n2;", 3, place + 2);
            Sentence.fault(words, law + " 2 0 1;", 3, place);
            Sentence.fault(words, law + " 0 3;", 3, place);
            Sentence.fault(words, law + " 3;", 2, place);
            Sentence.fault(words, law + " so;", 1, place);
        }
        String law = three + "law some 0 0 0";
        Sentence.good(words, law + " 0;", 5);
        Sentence.fault(words, law + " 3;", 2, law.length() + 1);
        Sentence.fault(words, law + " not 3;", 2, law.length() + 5);
        Sentence.fault(words, law + " not;", 1, law.length() + 4);
        // Each law counts its own.
        Sentence.good(words, law + " 1;law some 0 1 2 not 2;", 6);
        Sentence.fault(words, law + " 1;law some 0 1 2 not 2 2;", 3, law.length() + 24);
    }

    // ---- promises 1 to 8

    private static void newObject() {
        Sentence.holds(1, "No KITCHEN.", "truth = -2; stories = -2; count 0 = 0; count 1 = 0; count 2 = 0; count 3 = 0;"
                + "count 4 = 0; count 5 = 0; count 6 = 0; count 7 = 0; count 8 = 0; fault 0 = 0; fault 1 = -1;"
                + "claim 0 0 = -2; law 0 0 = -2; person 0 0 = -2; said 0 = -2; back 0 = -6; back 1 = -6; back 2 = -6;"
                + "write 0 0 0 = -6; write 3 0 0 = -6; end 0 = 0; end 1 = -1; kitchen = 0");
    }

    private static void feed() {
        String words = "NONE, and none come, if it would have more than 1,600.";
        String full = "kitchen;" + " ".repeat(1592);
        Sentence.holds(2, words, "<" + full, "count 6 = 1600; feed 1 2 3 4 5 = -1; count 6 = 1600; end 1600 = 1600;"
                + "feed 1 2 3 4 5 = -1; kitchen = 1; count 6 = 0; feed 1 2 3 4 5 = 20");
        Sentence.holds(2, words, "<" + full.substring(0, 1581), "feed 1 2 3 4 5 = -1; count 6 = 1581; end 1582 = -1;"
                + "kitchen = 1");
        Sentence.holds(2, words, "<" + full.substring(0, 1580), "feed 0 0 0 0 0 = 1600; feed 0 0 0 0 0 = -1; kitchen = -4;"
                + "fault 1 = 1580; end 1580 = 1580; kitchen = 1");
        Sentence.stays(2, words, new String[] {"<" + full.substring(0, 1599)}, "feed 0 0 0 0 0 = -1");
        Sentence.stays(2, words, new String[] {"<" + full}, "feed -1 MIN MAX 1 0 = -1");
    }

    /** Each of the twenty bytes at its place: the first fault shows which one is no blank. */
    private static void feedInOrder() {
        String words = "Twenty bytes come behind the TAPE, four of each number, the highest first: how many it has";
        int blanks = 0x20202020;
        for (int i = 0; i < 20; i++) {
            int[] n = {blanks, blanks, blanks, blanks, blanks};
            n[i / 4] ^= 0xff << 24 - 8 * (i % 4);
            String calls = "feed " + n[0] + " " + n[1] + " " + n[2] + " " + n[3] + " " + n[4];
            Sentence.holds(2, words, calls + " = 20; kitchen = -4; fault 0 = 1; fault 1 = " + i,
                    calls + " = 40; end 20 = 20; kitchen = -4; fault 1 = " + i);
            Sentence.holds(2, words, "<kitchen;", calls + " = 28; kitchen = -4; fault 1 = " + (8 + i));
        }
    }

    private static void end() {
        String words = "NONE, and nothing happens, if it has not so many, or n is below 0.";
        Sentence.holds(3, words, "end 0 = 0; end 1 = -1; end -1 = -1", "<" + ONE, "end 33 = -1; end -1 = -1; end MIN = -1;"
                + "end MAX = -1; count 6 = 32; end 32 = 32; kitchen = 2");
        Sentence.stays(3, words, Sentence.RICH, "end 33 = -1; end -1 = -1; end MIN = -1; end MAX = -1; end 1600 = -1");
        words = "The TAPE has its first n bytes alone: n;";
        Sentence.holds(3, words, "<" + ONE + "known 0;", "end 40 = 40; end 39 = 39; end 40 = -1; end 32 = 32; end 39 = -1;"
                + "kitchen = 2; count 3 = 0");
        Sentence.holds(3, words, "<kitchen;####", "end 8 = 8", "<claim so cost 1 found 1;", "count 6 = 32; kitchen = 2");
        Sentence.holds(3, words, "<kitchen;", "end 0 = 0; count 6 = 0; kitchen = 0");
    }

    private static void kitchen() {
        Sentence.holds(4, "The TAPE (empty then) is the KITCHEN (in place of another), nothing said: how many LINES",
                ">" + Sentence.K, "count 6 = 0; count 5 = 13; say 0 0 = 1; row 0 0 2 = 0; keep 1 = 0", "<" + TWO,
                "kitchen = 3; count 6 = 0; end 1 = -1; count 7 = 0; said 0 = -1; count 0 = 2; count 1 = 0; count 2 = 0;"
                + "count 3 = 0; count 4 = 0; count 5 = 3; claim 0 3 = -1; law 0 0 = -2; person 0 0 = -2; claim 2 0 = -2;"
                + "stories = 4; left = 4; count 8 = 1; back 1 = 0; said 0 = 0; count 5 = 13");
        Sentence.holds(4, "how many LINES (0: there is none then)", "kitchen = 0; truth = -2", ">" + Sentence.K,
                "say 0 0 = 1; end 0 = 0; kitchen = 0; truth = -2; count 0 = 0; count 1 = 0; count 2 = 0; count 3 = 0;"
                + "count 4 = 0; count 5 = 0; count 7 = 0; said 0 = -2; fault 0 = 0; fault 1 = -1", "< \n", "kitchen = 0;"
                + "count 6 = 0; truth = -2", "<kitchen;", "kitchen = 1; truth = 0");
        Sentence.holds(4, "how many LINES", "<" + ONE + "wants 0;".repeat(196), "count 6 = 1600; kitchen = 198; count 5 = 198");
    }

    private static void kitchenFaulty() {
        String words = "-4: a FAULT (all stays).";
        for (String text : new String[] {"#", "kitchen", "kitchen;claim so cost 100 found 1;", NINE + "claim", "claim;"}) {
            String[] steps = Sentence.RICH.clone();
            steps[3] = "<" + text;
            Sentence.stays(4, words, steps, "kitchen = -4");
            Sentence.stays(4, words, new String[] {"<" + text}, "kitchen = -4");
        }
        // Half a kitchen was read ahead of the fault: nothing of it may show.
        Sentence.holds(4, words, ">" + ONE, "<" + Sentence.K + "#", "kitchen = -4; count 0 = 1; count 1 = 0; count 2 = 0;"
                + "count 3 = 0; count 4 = 0; count 5 = 2; stories = 2; truth = 1; claim 0 1 = 1; kitchen = -4; end 0 = 0;"
                + "kitchen = 0");
    }

    private static void faultAnswers() {
        String words = "Of the latest kitchen(), what 0: its FAULT, 0 without, 1: its place (NONE without).";
        Sentence.holds(5, words, "<kitchen;#", "kitchen = -4; fault 0 = 1; fault 1 = 8; end 8 = 8; fault 0 = 1; kitchen = 1;"
                + "fault 0 = 0; fault 1 = -1", "<" + NINE + "claim", "kitchen = -4; fault 0 = 3; fault 1 = 224; end 0 = 0;"
                + "fault 1 = 224", "<kitchen;known 0;", "kitchen = -4; fault 0 = 2; fault 1 = 14; keep 0 = 0; back 0 = 0;"
                + "fault 0 = 2; fault 1 = 14; end 0 = 0; kitchen = 0; fault 0 = 0; fault 1 = -1");
        Sentence.holds(5, words, "<#", "kitchen = -4; fault 0 = 1; fault 1 = 0");
        words = "NONE for another what, and ahead of any (what 1).";
        Sentence.holds(5, words, "fault 1 = -1; fault 0 = 0; fault 2 = -1; fault -1 = -1; fault MIN = -1; fault MAX = -1");
        Sentence.holds(5, words, "<kitchen", "kitchen = -4; fault 2 = -1; fault -1 = -1; fault 0 = 1; fault 1 = 7");
        Sentence.stays(5, words, Sentence.RICH, "fault 2 = -1; fault -1 = -1; fault 0 = 0; fault 1 = -1");
    }

    private static void claim() {
        String words = "-2: there are none such.";
        Sentence.holds(6, words, "claim 0 0 = -2; claim -1 0 = -2", ">kitchen;", "claim 0 0 = -2", ">" + ONE,
                "claim 0 0 = 1; claim 0 5 = -1; claim 0 6 = -2; claim 0 -1 = -2; claim 1 0 = -2; claim -1 0 = -2;"
                + "claim 0 MAX = -2; claim 0 MIN = -2; claim MAX 0 = -2; claim MIN 0 = -2", ">" + NINE,
                "claim 8 0 = 1; claim 8 1 = 1; claim 9 0 = -2; claim 32 0 = -2; claim 8 6 = -2");
        Sentence.holds(6, "3: owns (NONE), 4: 1 if it is KNOWN, else 0, 5: what is WANTED of it (1 so, 0 not; NONE).",
                ">kitchen;claim so cost 5 found 6 owns 0;claim not cost 7 found 8;claim so cost 0 found 0 owns 99;known 1;"
                + "wants 0;wants not 2;", "claim 0 3 = 0; claim 1 3 = -1; claim 2 3 = 99; claim 0 4 = 0; claim 1 4 = 1;"
                + "claim 2 4 = 0; claim 0 5 = 1; claim 1 5 = -1; claim 2 5 = 0; claim 0 1 = 5; claim 1 1 = 7; claim 0 2 = 6;"
                + "claim 1 2 = 8; claim 0 0 = 1; claim 1 0 = 0");
        Sentence.stays(6, words, Sentence.RICH, "claim 4 0 = -2; claim -1 0 = -2; claim 0 6 = -2; claim 0 -1 = -2");
    }

    private static void law() {
        String words = "-2: there are none such.";
        Sentence.holds(7, words, "law 0 0 = -2", ">" + ONE, "law 0 0 = -2; law -1 0 = -2", ">" + ONE + "law some 0;",
                "law 0 0 = 1; law 0 1 = 0; law 0 2 = -2; law 0 -1 = -2; law 1 0 = -2; law -1 1 = -2; law MAX 0 = -2;"
                + "law MIN 0 = -2; law 0 MAX = -2; law 0 MIN = -2", ">" + SIXTEEN, "law 15 0 = 1; law 16 0 = -2; law 15 2 = -2");
        Sentence.holds(7, "Of a LAW, what 0: CLAIMS that do by being so, 1: by not, as bits.", ">" + NINE
                + "law some 8 not 8 0 not 0;law if 0 then 8;law if not 0 then not 8;law bars 0 8;law bars not 0 not 8;"
                + "law bars not 7 1;", "law 0 0 = 257; law 0 1 = 257; law 1 0 = 256; law 1 1 = 1; law 2 0 = 1; law 2 1 = 256;"
                + "law 3 0 = 0; law 3 1 = 257; law 4 0 = 257; law 4 1 = 0; law 5 0 = 128; law 5 1 = 2");
        Sentence.stays(7, words, Sentence.RICH, "law 3 0 = -2; law -1 0 = -2; law 0 2 = -2; law 0 -1 = -2; law 0 0 = 3");
    }

    private static void person() {
        String words = "-2: there are none such.";
        Sentence.holds(8, words, "person 0 0 = -2", ">" + ONE, "person 0 0 = -2; person -1 0 = -2",
                ">" + ONE + "person cost 5 knows 0;", "person 0 0 = 5; person 0 1 = 1; person 0 2 = -2; person 0 -1 = -2;"
                + "person 1 0 = -2; person -1 1 = -2; person MAX 0 = -2; person MIN 0 = -2; person 0 MAX = -2;"
                + "person 0 MIN = -2", ">" + SIX, "person 5 0 = 1; person 6 0 = -2; person 5 2 = -2");
        Sentence.stays(8, words, Sentence.RICH, "person 3 0 = -2; person -1 0 = -2; person 0 2 = -2; person 0 -1 = -2;"
                + "person 0 1 = 3");
    }
}
