/** Promises 4 and 5, and the terms I: which fault a text has, and where. */
public final class FaultTest {
    private static final String ONE = "kitchen;claim so cost 1 found 1;";
    private static final String TWO = ONE + "claim not cost 1 found 1;";

    public static void main(String[] args) {
        cannotStand();
        outOfBounds();
        notAsSaid();
        tooMany();
        fifthLiteral();
        good();
        Check.finish();
    }

    private static void fault(String text, int fault, int place) {
        LieKitchen x = new LieKitchen();
        Check.due(text, Check.kitchen(x, text), -4);
        Check.due(text + " fault", x.fault(0), fault);
        Check.due(text + " place", x.fault(1), place);
        Check.due(text + " tape", x.count(6), text.length());
        Check.due(text + " kitchen", x.truth(), -2);
    }

    /** The fault is at the last token of the text. */
    private static void lastToken(String text, int fault) {
        fault(text, fault, text.lastIndexOf(' ') + 1);
        fault(text + " law law 100;", fault, text.lastIndexOf(' ') + 1);
    }

    private static void cannotStand() {
        for (String text : new String[] {"claim", "known", "x", ";", "7", "kitchens;", "kitchenz;",
            "xitchen;", "Kitchen;", "#"}) {
            fault(text, 1, 0);
        }
        fault("kitchen", 1, 7);
        fault("kitchen \n ", 1, 10);
        fault("kitchen;;", 1, 8);
        fault("kitchen;kitchen", 1, 8);
        fault("kitchen kitchen;", 1, 8);
        fault("kitchen#", 1, 7);
        fault("kitchen;\t", 1, 8);
        fault("kitchen;\r\n", 1, 8);
        fault("kitchen;\0", 1, 8);
        fault("kitchen;\u00ff", 1, 8);
        fault("kitchen;\u0080", 1, 8);
        fault("kitchen;-", 1, 8);
        fault("kitchen;12;", 1, 8);
        fault(ONE + "kitchen;", 1, 32);
        fault(ONE.substring(0, 31), 1, 31);
        String[] lines = {"claim", "claim so", "claim so cost", "claim so cost 1", "claim so cost 1 found",
            "claim so cost 1 found 1 owns", "law", "law some", "law some not", "law if", "law if not", "law if 0",
            "law if 0 then", "law if 0 then not", "law bars", "law bars 0", "law bars 0 not", "known", "wants",
            "wants not", "person", "person cost", "person cost 1", "person cost 1 knows"};
        for (String line : lines) {
            fault(TWO + line, 1, TWO.length() + line.length());
            fault(TWO + line + ";", 1, TWO.length() + line.length() + (line.endsWith("found 1") ? 1 : 0));
            lastToken(TWO + line + " foo", 1);
            lastToken(TWO + line + " #", 1);
        }
        for (String line : new String[] {"claim 1", "claim so 1", "claim so cost so", "law 0", "law then", "known not",
            "known so", "wants so", "wants not not", "person knows", "person cost not", "person cost 1 knows not",
            "person cost 1 knows 0 not", "law if 0 1", "law bars 0 then", "law some 0 some", "known 0 1", "wants 0 1",
            "claim so cost 1 found 1 cost", "claim so cost 1 found 1 owns 1 owns", "law bars 0 1 1"}) {
            lastToken(TWO + line, 1);
        }
    }

    private static void outOfBounds() {
        for (String line : new String[] {"claim so cost 100", "claim so cost 1 found 101", "claim not cost 0 found 0 owns 100",
            "law some 2", "law some not 2", "law some 0 2", "law if 2", "law if 0 then 2", "law if 0 then not 2",
            "law bars 2", "law bars not 2", "law bars 0 2", "known 2", "wants 2", "wants not 9", "person cost 100",
            "person cost 1 knows 2", "person cost 1 knows 0 2", "known 99999999999999999999", "known 4294967296",
            "known 4294967297", "claim so cost 18446744073709551616"}) {
            lastToken(TWO + line, 2);
        }
        lastToken("kitchen;law some 0", 2);
        lastToken("kitchen;known 0", 2);
        lastToken("kitchen;wants not 0", 2);
        lastToken("kitchen;person cost 1 knows 0", 2);
    }

    private static void notAsSaid() {
        lastToken(ONE + "known 0;known 0", 2);
        lastToken(ONE + "law if 0 then 0", 2);
        lastToken(ONE + "law if 0 then not 0", 2);
        lastToken(ONE + "law if not 0 then 0", 2);
        lastToken(ONE + "law bars 0 0", 2);
        lastToken(ONE + "law bars 0 not 0", 2);
        lastToken(TWO + "law bars not 1 01", 2);
    }

    private static String times(String line, int n) {
        return line.repeat(n);
    }

    private static void tooMany() {
        String nine = "kitchen;" + times("claim so cost 1 found 1;", 9);
        Check.due("nine claims", Check.kitchen(new LieKitchen(), nine), 10);
        fault(nine + "claim", 3, nine.length());
        fault(nine + "claim so cost 100", 3, nine.length());
        fault(nine + "\n claim;", 3, nine.length() + 2);
        String laws = ONE + times("law some 0;", 16);
        Check.due("sixteen laws", Check.kitchen(new LieKitchen(), laws), 18);
        fault(laws + "law", 3, laws.length());
        fault(laws + "law some 9;", 3, laws.length());
        String people = ONE + times("person cost 1 knows 0;", 6);
        Check.due("six people", Check.kitchen(new LieKitchen(), people), 8);
        fault(people + "person", 3, people.length());
        fault(laws + "lawless;", 1, laws.length());
    }

    private static void fifthLiteral() {
        String four = ONE + "law some 0 0 0 not 0";
        Check.due("four", Check.kitchen(new LieKitchen(), four + ";"), 3);
        lastToken(four + " 0", 3);
        fault(four + " not 0;", 3, four.length() + 1);
        fault(four + " not", 3, four.length() + 1);
        fault(four + " not 9", 3, four.length() + 1);
        fault(four + " 1;", 2, four.length() + 1);
        fault(four + " 0 1;", 3, four.length() + 1);
        fault(four + " so", 1, four.length() + 1);
    }

    private static void good() {
        LieKitchen x = new LieKitchen();
        Check.due("glued", Check.kitchen(x, "kitchen;claim so cost1found1owns2;law some0not0;known0;wants0;"), 5);
        Check.due("owns", x.claim(0, 3), 2);
        Check.due("leading 0s", Check.kitchen(x, "  kitchen ; claim not cost 0099 found 000000000000000000100 owns 00 ;\n\n"), 2);
        Check.due("cost", x.claim(0, 1), 99);
        Check.due("found", x.claim(0, 2), 100);
        Check.due("owns", x.claim(0, 3), 0);
        Check.due("nobody owns", Check.kitchen(x, ONE + "person cost 99 knows 0 0 0 0 0 0 0;"), 3);
        Check.due("owns", x.claim(0, 3), -1);
        Check.due("knows", x.person(0, 1), 1);
    }
}
