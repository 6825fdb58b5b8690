/** Each promise on small kitchens, with answers that were worked out by hand. */
public final class PromiseTest {
    /** TRUTH is 5 and breaks law 1; 1, 2, 3 are sound; 2 alone holds. */
    private static final String K = "kitchen;\n"
            + "claim so cost 5 found 10 owns 7; claim not cost 3 found 20;\n"
            + "claim so cost 2 found 50 owns 1; claim not cost 4 found 0 owns 0;\n"
            + "law if not 0 then 1; law some 1 not 2 3; law bars 1 2; known 3; wants not 0;\n"
            + "person cost 9 knows 0 1; person cost 1 knows 2 2; person cost 0 knows 3 0;";
    /** No story is sound. */
    private static final String IMPOSSIBLE = "kitchen;claim so cost 1 found 1;known 0;law some not 0;";
    private static final String EMPTY = "kitchen;";

    public static void main(String[] args) {
        newObject();
        noKitchen(new LieKitchen());
        LieKitchen gone = Check.with(K);
        Check.kitchen(gone, "");
        noKitchen(gone);
        tape();
        fullTape();
        kitchen();
        partsOfAKitchen();
        storyByItself();
        storiesThatHold();
        clash();
        lies();
        risk();
        riskOfNine();
        safest();
        owning();
        confessing();
        apartAndTrusts();
        catching();
        judging();
        judgingRefused();
        saying();
        mates();
        naive();
        drawn();
        luck();
        changing();
        counting();
        images();
        rows();
        pasting();
        noSoundStory();
        noClaims();
        Check.finish();
    }

    private static void due(String call, long got, long want) {
        Check.due(call, got, want);
    }

    private static void newObject() {
        LieKitchen x = new LieKitchen();
        due("truth", x.truth(), -2);
        for (int what = 0; what < 9; what++) {
            due("count " + what, x.count(what), 0);
        }
        due("fault(0)", x.fault(0), 0);
        due("fault(1)", x.fault(1), -1);
        due("back(0)", x.back(0), -6);
        due("write", x.write(3, 0, 1), -6);
        due("spares", x.spares(0), -200);
    }

    /** Without a kitchen there is none such, whatever is asked. */
    private static void noKitchen(LieKitchen x) {
        long[] answers = {x.claim(0, 0), x.law(0, 0), x.person(0, 0), x.truth(), x.breaks(0), x.broken(0), x.holds(0),
            x.untrue(0), x.costs(0), x.stories(), x.story(0), x.fewest(), x.told(), x.cheap(), x.cheaply(), x.clash(),
            x.clashed(), x.lie(0), x.needs(0), x.risk(0, 1, 0), x.safest(), x.own(0), x.owning(), x.confess(),
            x.confessed(), x.spread(0), x.apart(0, 1), x.trusts(0), x.catches(), x.caught(), x.knowing(0), x.fixed(0),
            x.judge(0), x.fits(0), x.must(0, 0), x.least(0), x.lies(0), x.ask(0), x.leaves(0), x.likely(0, 0),
            x.say(0, 0), x.unsay(), x.anew(), x.said(0), x.may(0), x.left(), x.forced(), x.lied(), x.still(),
            x.witnesses(0), x.mates(), x.mated(), x.quiet(0), x.few(), x.whom(), x.slips(0), x.naive(0), x.change(0),
            x.drawn(0, 0, 1, 0), x.luck(0, 1, 0, 1), x.learn(0, 0), x.wish(0, 0), x.price(0, 1, 0)};
        for (int i = 0; i < answers.length; i++) {
            due("no kitchen, " + i, answers[i], -2);
        }
        due("spares", x.spares(0), -200);
    }

    private static void fullTape() {
        LieKitchen x = new LieKitchen();
        String text = "kitchen;" + " ".repeat(1600 - 8 - 24) + "claim so cost 1 found 1;";
        due("1,600 bytes", Check.kitchen(x, text), 2);
        due("without the last", Check.kitchen(x, " " + text.substring(0, 1599)), -4);
        due("fault(1)", x.fault(1), 1600);
        due("count(6)", x.count(6), 1600);
        due("a word of 1,600", Check.kitchen(x, "a".repeat(1600)), -4);
        due("fault(1)", x.fault(1), 0);
        due("a number", Check.kitchen(x, "kitchen;known " + "0".repeat(1586)), -4);
        due("fault(1)", x.fault(1), 14);
        due("signs", Check.kitchen(x, "kitchen" + ";".repeat(1593)), -4);
        due("fault(1)", x.fault(1), 8);
    }

    private static void tape() {
        LieKitchen x = new LieKitchen();
        for (int i = 1; i <= 80; i++) {
            due("feed", x.feed(0, 0, 0, 0, 0), 20 * i);
        }
        due("feed to the full tape", x.feed(0, 0, 0, 0, 0), -1);
        due("count(6)", x.count(6), 1600);
        due("end(1601)", x.end(1601), -1);
        due("end(-1)", x.end(-1), -1);
        due("count(6)", x.count(6), 1600);
        due("end(1581)", x.end(1581), 1581);
        due("feed to 1,581", x.feed(0, 0, 0, 0, 0), -1);
        due("end(1580)", x.end(1580), 1580);
        due("feed to 1,580", x.feed(0, 0, 0, 0, 0), 1600);
        due("end(1600)", x.end(1600), 1600);
        due("end(0)", x.end(0), 0);
        due("end(1)", x.end(1), -1);
        due("feed", x.feed(0x6b697463, 0x68656e3b, 0x20202020, 0x0a0a0a0a, 0x20202020), 20);
        due("kitchen", x.kitchen(), 1);
    }

    private static void kitchen() {
        LieKitchen x = Check.with(K);
        due("count(6)", x.count(6), 0);
        due("count(5)", x.count(5), 13);
        x.say(0, 0);
        Check.feed(x, "kitchen;known 0;");
        due("a fault", x.kitchen(), -4);
        due("fault(0)", x.fault(0), 2);
        due("fault(1)", x.fault(1), 14);
        due("fault(2)", x.fault(2), -1);
        due("fault(-1)", x.fault(-1), -1);
        due("the tape stays", x.count(6), 16);
        due("the kitchen stays", x.count(5), 13);
        due("what was said stays", x.count(7), 1);
        due("again", x.kitchen(), -4);
        due("in place of another", Check.kitchen(x, IMPOSSIBLE), 4);
        due("fault(0)", x.fault(0), 0);
        due("fault(1)", x.fault(1), -1);
        due("nothing said", x.count(7), 0);
        due("count(1)", x.count(1), 1);
        due("count(2)", x.count(2), 0);
        due("blanks alone", Check.kitchen(x, " \n "), 0);
        due("no kitchen", x.truth(), -2);
        due("no claims", x.count(0), 0);
        due("tape empty", x.count(6), 0);
    }

    private static void partsOfAKitchen() {
        LieKitchen x = Check.with(K);
        int[][] claims = {{1, 5, 10, 7, 0, 0}, {0, 3, 20, -1, 0, -1}, {1, 2, 50, 1, 0, -1}, {0, 4, 0, 0, 1, -1}};
        for (int c = 0; c < 4; c++) {
            for (int what = 0; what < 6; what++) {
                due("claim " + c + " " + what, x.claim(c, what), claims[c][what]);
            }
            due("claim", x.claim(c, 6), -2);
            due("claim", x.claim(c, -1), -2);
        }
        due("claim 4", x.claim(4, 0), -2);
        due("claim -1", x.claim(-1, 0), -2);
        int[][] laws = {{3, 0}, {10, 4}, {0, 6}};
        int[][] people = {{9, 3}, {1, 4}, {0, 9}};
        for (int i = 0; i < 3; i++) {
            for (int what = 0; what < 2; what++) {
                due("law " + i, x.law(i, what), laws[i][what]);
                due("person " + i, x.person(i, what), people[i][what]);
            }
        }
        due("law", x.law(3, 0) + x.law(-1, 0) + x.law(0, 2) + x.law(0, -1), -8);
        due("person", x.person(3, 0) + x.person(-1, 1) + x.person(0, 2) + x.person(0, -1), -8);
        lawForms();
    }

    private static void lawForms() {
        String claims = "kitchen;claim so cost 1 found 1;claim so cost 1 found 1;claim so cost 1 found 1;";
        LieKitchen x = Check.with(claims + "law if 0 then not 2;law if not 2 then not 1;law bars not 0 not 1;"
                + "law bars 2 not 0;law some not 1 not 1 1 not 1;wants 0;wants not 0;wants 1;wants 1;wants not 2;wants 2;");
        int[][] laws = {{0, 5}, {4, 2}, {3, 0}, {1, 4}, {2, 2}};
        for (int i = 0; i < 5; i++) {
            due("law " + i + " 0", x.law(i, 0), laws[i][0]);
            due("law " + i + " 1", x.law(i, 1), laws[i][1]);
        }
        due("a later wish strikes", x.claim(0, 5), 0);
        due("wanted", x.claim(1, 5), 1);
        due("wanted", x.claim(2, 5), 1);
        due("count(4)", x.count(4), 3);
        due("count(5)", x.count(5), 15);
    }

    private static void storyByItself() {
        LieKitchen x = Check.with(K);
        due("truth", x.truth(), 5);
        due("breaks(5)", x.breaks(5), 1);
        due("broken(5)", x.broken(5), 1);
        due("breaks(4)", x.breaks(4), 0);
        due("broken(4)", x.broken(4), 2);
        due("breaks(1)", x.breaks(1), -1);
        due("broken(1)", x.broken(1), 0);
        for (int s = 0; s < 16; s++) {
            due("holds " + s, x.holds(s), s == 2 ? 1 : 0);
        }
        due("untrue(2)", x.untrue(2), 7);
        due("untrue(5)", x.untrue(5), 0);
        due("untrue(15)", x.untrue(15), 10);
        due("costs(2)", x.costs(2), 10);
        due("costs(5)", x.costs(5), 0);
        due("costs(10)", x.costs(10), 14);
        for (int s : new int[] {-1, 16, Integer.MAX_VALUE, Integer.MIN_VALUE}) {
            due("no such story", x.breaks(s) + x.broken(s) + x.holds(s) + x.untrue(s) + x.costs(s), -10);
        }
    }

    private static void storiesThatHold() {
        LieKitchen x = Check.with(K);
        due("stories", x.stories(), 1);
        due("story(0)", x.story(0), 2);
        due("story(1)", x.story(1), -1);
        due("story(-1)", x.story(-1), -1);
        due("fewest", x.fewest(), 3);
        due("told", x.told(), 2);
        due("cheap", x.cheap(), 10);
        due("cheaply", x.cheaply(), 2);
        x.wish(0, -1);
        due("stories", x.stories(), 3);
        due("story(2)", x.story(2), 3);
        due("fewest", x.fewest(), 1);
        due("told", x.told(), 1);
        due("cheap", x.cheap(), 2);
        due("cheaply", x.cheaply(), 1);
        // Now 1 costs 9, 2 costs 5, 3 costs 9: fewest and cheapest are not alike.
        x.price(2, 1, 9);
        x.price(0, 1, 0);
        x.price(1, 1, 0);
        due("cheap", x.cheap(), 9);
        due("the least of several", x.cheaply(), 1);
        x.wish(0, 1);
        x.wish(1, 0);
        x.wish(2, 1);
        due("fewest", x.fewest(), -1);
        due("told", x.told(), -1);
        due("cheap", x.cheap(), -1);
        due("cheaply", x.cheaply(), -1);
        due("story(0)", x.story(0), -1);
        LieKitchen y = Check.with("kitchen;claim so cost 9 found 1;claim so cost 1 found 1;claim so cost 1 found 1;"
                + "law some not 0 not 1;law some not 0 not 2;");
        due("fewest", y.fewest(), 1);
        due("told", y.told(), 6);
        due("cheap", y.cheap(), 2);
        due("cheaply", y.cheaply(), 1);
    }

    private static void clash() {
        LieKitchen x = Check.with(K);
        due("clash", x.clash(), -1);
        due("clashed", x.clashed(), -1);
        x.wish(1, 0);
        due("clash", x.clash(), 2);
        due("clashed", x.clashed(), 3);
        x.wish(2, 0);
        due("clashed", x.clashed(), 3);
        x.wish(2, 1);
        due("no sound story has 2", x.clash(), 1);
        due("clashed", x.clashed(), 4);
        x.wish(3, 1);
        due("3 is known", x.clashed(), 4);
        x.wish(2, -1);
        due("clash", x.clash(), 1);
        due("clashed", x.clashed(), 8);
        x.wish(3, -1);
        x.wish(1, 1);
        due("both can be had", x.clash(), -1);
        due("nothing is owned to", x.confess() * 16 + x.confessed(), 160);
    }

    private static void lies() {
        LieKitchen x = Check.with(K);
        int[] lie = {3, 2, 1, -1};
        int[] needs = {6, 4, 0, 0};
        int[] spread = {2, 3, 1, -1};
        for (int c = 0; c < 4; c++) {
            due("lie " + c, x.lie(c), lie[c]);
            due("needs " + c, x.needs(c), needs[c]);
            due("spread " + c, x.spread(c), spread[c]);
        }
        for (int c : new int[] {-1, 4}) {
            due("no such claim", x.lie(c) + x.needs(c) + x.spread(c), -6);
        }
    }

    private static void risk() {
        LieKitchen x = Check.with(K);
        due("risk", x.risk(1, 1, 0), 1);
        due("risk", x.risk(1, 1, 1), 2);
        due("risk", x.risk(1, 2, 0), 3);
        due("risk", x.risk(1, 2, 1), 4);
        due("risk", x.risk(2, 1, 0), 16);
        due("risk", x.risk(2, 1, 1), 25);
        due("risk", x.risk(2, 3, 0), 14896);
        due("risk", x.risk(2, 3, 1), 15625);
        due("more than nine", x.risk(2, 4, 0), -1);
        due("more than nine", x.risk(1, 10, 1), -1);
        due("far more", x.risk(2, 1431655766, 0), -1);
        due("far more", x.risk(1, Integer.MAX_VALUE, 0), -1);
        due("nothing untrue", x.risk(5, Integer.MAX_VALUE, 0), 0);
        due("nothing untrue", x.risk(5, Integer.MAX_VALUE, 1), 1);
        due("never found", x.risk(13, 9, 0), 0);
        due("never found", x.risk(13, 9, 1), 1);
        due("n", x.risk(5, 0, 0) + x.risk(5, -1, 0), -4);
        due("what", x.risk(5, 1, 2) + x.risk(5, 1, -1), -4);
        due("story", x.risk(16, 1, 0) + x.risk(-1, 1, 0), -4);
        x.price(2, 2, 100);
        due("surely", x.risk(1, 9, 0), 1);
        due("surely", x.risk(1, 9, 1), 1);
    }

    private static void riskOfNine() {
        StringBuilder text = new StringBuilder("kitchen;");
        for (int i = 0; i < 9; i++) {
            text.append("claim so cost 99 found 1;");
        }
        LieKitchen x = Check.with(text.toString());
        due("nine", x.risk(0, 1, 0), 86482752516359101L);
        due("nine", x.risk(0, 1, 1), 1000000000000000000L);
        due("nine twice", x.risk(0, 2, 0), -1);
        due("costs", x.costs(0), 891);
        due("stories", x.stories(), 512);
        due("story(511)", x.story(511), 511);
        due("512", x.holds(512), -2);
    }

    private static void safest() {
        LieKitchen x = Check.with("kitchen;claim so cost 1 found 51;claim so cost 1 found 30;claim so cost 1 found 30;"
                + "law some not 0 not 1;law some not 0 not 2;");
        due("51 in a hundred, both ways", x.safest(), 1);
        x.price(0, 2, 52);
        due("two lies, less risky than one", x.safest(), 1);
        x.price(0, 2, 50);
        due("one lie, less risky than two", x.safest(), 6);
        x.price(0, 2, 100);
        x.price(1, 2, 100);
        due("both surely", x.safest(), 0);
        due("none holds", Check.with(IMPOSSIBLE).safest(), -1);
    }

    private static void owning() {
        LieKitchen x = Check.with(K);
        int[] own = {9, -1, -1, 10};
        int[] spares = {2, -100, -100, 0};
        for (int c = 0; c < 4; c++) {
            due("own " + c, x.own(c), own[c]);
            due("spares " + c, x.spares(c), spares[c]);
        }
        due("own", x.own(4) + x.own(-1), -4);
        due("spares", x.spares(4) + x.spares(-1), -400);
        due("owning", x.owning(), 0);
        x.price(0, 3, 8);
        due("own", x.own(0), 10);
        due("not less", x.owning(), -1);
        x.price(0, 3, -1);
        due("can't be owned to", x.own(0), -1);
        due("can't be owned to", x.spares(0), -100);
        // Wishes that clash: none holds, but owning to 1 (8 and 2) or 0 (7 and 2) mends it.
        LieKitchen y = Check.with(K);
        y.wish(1, 0);
        y.price(1, 3, 0);
        due("none holds", y.cheap(), -1);
        due("own(0)", y.own(0), 9);
        due("own(1)", y.own(1), -1);
        due("owning", y.owning(), 0);
        due("spares: none holds now", y.spares(0), -100);
        LieKitchen z = Check.with("kitchen;claim so cost 1 found 1 owns 0;claim so cost 1 found 1 owns 0;"
                + "claim so cost 1 found 1;claim so cost 1 found 1;wants not 1;law if 0 then not 2;law if 0 then not 3;");
        due("fewest", z.fewest(), 2);
        due("then more", z.spares(0), -1);
        due("then fewer", z.spares(1), 1);
        due("owning", z.owning(), 1);
        LieKitchen both = Check.with("kitchen;claim so cost 5 found 1;claim so cost 5 found 1 owns 1;"
                + "claim so cost 5 found 1 owns 1;wants not 1;wants not 2;");
        due("own", both.own(1) * 10 + both.own(2), 66);
        due("the first of several", both.owning(), 1);
    }

    private static void confessing() {
        LieKitchen x = Check.with(K);
        due("confess", x.confess(), 9);
        due("confessed", x.confessed(), 1);
        x.price(0, 3, 8);
        due("confess", x.confess(), 10);
        due("the least set: none", x.confessed(), 0);
        LieKitchen y = Check.with("kitchen;claim so cost 50 found 1 owns 1;claim so cost 50 found 1 owns 2;"
                + "claim so cost 9 found 1;law bars not 0 not 1;wants not 0;wants not 1;wants not 2;");
        due("none holds", y.cheap(), -1);
        due("confess to both", y.confess(), 12);
        due("confessed", y.confessed(), 3);
        y.price(0, 3, -1);
        due("to 1 alone", y.confess(), 61);
        due("confessed", y.confessed(), 2);
        y.price(1, 3, -1);
        due("by none", y.confess(), -1);
        due("by none", y.confessed(), -1);
    }

    private static void apartAndTrusts() {
        LieKitchen x = Check.with(K);
        due("apart(0, 1)", x.apart(0, 1), 0);
        due("apart(0, 2)", x.apart(0, 2), 0);
        due("trusts(0)", x.trusts(0), 0);
        x.wish(0, -1);
        due("apart(0, 2)", x.apart(0, 2), 1);
        due("apart(2, 0)", x.apart(2, 0), 1);
        due("trusts(0)", x.trusts(0), 1);
        due("trusts(1)", x.trusts(1), 0);
        due("trusts(2)", x.trusts(2), 2);
        x.say(1, 1);
        due("apart(0, 2)", x.apart(0, 2), 1);
        due("trusts(2)", x.trusts(2), 1);
        x.say(0, 1);
        due("apart(0, 2)", x.apart(0, 2), 0);
        due("one twice", x.apart(0, 0), -2);
        due("none such", x.apart(0, 3) + x.apart(3, 0) + x.apart(-1, 0) + x.apart(0, -1), -8);
        due("none such", x.trusts(3) + x.trusts(-1), -4);
    }

    private static void catching() {
        LieKitchen x = Check.with(K);
        due("catches", x.catches(), 1);
        due("caught", x.caught(), 1);
        int[] knowing = {1, 0, 0, 0, 0, 0, 0, 0, 1};
        for (int set = 0; set < knowing.length; set++) {
            due("knowing " + set, x.knowing(set), knowing[set]);
        }
        due("no such set", x.knowing(16) + x.knowing(-1), -4);
        due("fixed(0)", x.fixed(0), 2);
        due("fixed(1)", x.fixed(1), 13);
        due("fixed", x.fixed(2) + x.fixed(-1), -4);
        x.wish(0, -1);
        due("catches", x.catches(), 1);
        due("caught", x.caught(), 4);
        due("fixed(0)", x.fixed(0), 0);
        due("fixed(1)", x.fixed(1), 12);
        due("knowing(2)", x.knowing(2), 1);
        LieKitchen y = Check.with("kitchen;claim so cost 1 found 1;claim so cost 1 found 1;claim so cost 1 found 1;"
                + "law some not 0 not 1 not 2;");
        due("all three", y.catches(), 3);
        due("all three", y.caught(), 7);
        LieKitchen z = Check.with("kitchen;claim so cost 1 found 1;");
        due("it is true anyway", z.catches(), -1);
        due("it is true anyway", z.caught(), -1);
    }

    private static void judging() {
        LieKitchen x = Check.with(K);
        answers(x, "no answers", new long[] {}, 0, 3, 0, 12, 1, 4, 0, 2, 1, 3);
        answers(x, "1 so", new long[] {1, 1}, 1, 2, 2, 12, 2, 6, 0, 1, 1, 2);
        answers(x, "1 and 0 so", new long[] {1, 1, 0, 1}, 2, 1, 3, 12, 2, 6, -1, 1, 0, 1);
        answers(x, "2 so", new long[] {2, 1}, 0, 0, 0, 0, -1, -1, -1, 0, -1, -1);
        answers(x, "the third", new long[] {0, 1, 1, 0, 2, 1, 3, 0}, 2, 0, 0, 0, -1, -1, -1, 0, -1, -1);
        answers(x, "not alike", new long[] {0, 1, 0, 0}, 1, 0, 0, 0, -1, -1, -1, 0, -1, -1);
        answers(x, "alike", new long[] {0, 1, 0, 1}, 2, 2, 1, 12, 1, 4, 1, 1, 0, 1);
        x.wish(0, -1);
        answers(x, "nothing wanted", new long[] {}, 0, 3, 0, 12, 1, 4, 0, 2, 1, 1);
        lessOfSets();
    }

    /** In each width: judge, fits, must 0 and 1, least, lies, ask, leaves, likely 0 and 1. */
    private static void answers(LieKitchen x, String what, long[] numbers, long... want) {
        for (int width = 0; width < 4; width++) {
            Check.row(x, width, width, numbers);
            due(what + ": judge", x.judge(width), want[0]);
            due(what + ": fits", x.fits(width), want[1]);
            due(what + ": must so", x.must(width, 0), want[2]);
            due(what + ": must not", x.must(width, 1), want[3]);
            due(what + ": least", x.least(width), want[4]);
            due(what + ": lies", x.lies(width), want[5]);
            due(what + ": ask", x.ask(width), want[6]);
            due(what + ": leaves", x.leaves(width), want[7]);
            due(what + ": likely above", x.likely(width, 0), want[8]);
            due(what + ": likely below", x.likely(width, 1), want[9]);
        }
    }

    /** The least set of lies is not that of the least story where TRUTH has claims so. */
    private static void lessOfSets() {
        LieKitchen x = Check.with("kitchen;claim so cost 1 found 1;claim so cost 1 found 1;law some not 0 not 1;");
        Check.row(x, 0, 0);
        due("least", x.least(0), 1);
        due("lies", x.lies(0), 1);
        due("told", x.told(), 1);
        due("spread(0)", x.spread(0), 2);
    }

    private static void judgingRefused() {
        LieKitchen x = Check.with(K);
        refused(x, 0, -6);
        refused(x, 4, -2);
        refused(x, -1, -2);
        long[][] wrong = {{0}, {0, 1, 2}, {4, 1}, {-1, 1}, {0, 2}, {0, -1}, {0, 1, 4, 1}, {2, 1, 0, 2}};
        for (long[] numbers : wrong) {
            Check.row(x, 0, 1, numbers);
            refused(x, 0, -2);
        }
        Check.row(x, 0, 0, 256, 257);
        due("cut to its width", x.judge(0), 1);
        due("what", x.must(0, 2) + x.must(0, -1) + x.likely(0, 2) + x.likely(0, -1), -8);
        due("what ahead of nothing", x.must(1, 2) + x.likely(1, 2), -4);
        Check.kitchen(x, "");
        refused(x, 0, -2);
        refused(x, 1, -2);
    }

    private static void refused(LieKitchen x, int slot, int want) {
        due("judge", x.judge(slot), want);
        due("fits", x.fits(slot), want);
        due("must", x.must(slot, 0), want);
        due("least", x.least(slot), want);
        due("lies", x.lies(slot), want);
        due("ask", x.ask(slot), want);
        due("leaves", x.leaves(slot), want);
        due("likely", x.likely(slot, 1), want);
    }

    private static void saying() {
        LieKitchen x = Check.with(K);
        due("none would be", x.say(0, 1), -5);
        due("no such claim", x.say(4, 0) + x.say(-1, 0), -4);
        due("no such value", x.say(0, 2) + x.say(0, -1), -4);
        due("unsay", x.unsay(), -5);
        due("forced", x.forced(), 15);
        due("lied", x.lied(), 0);
        due("say", x.say(0, 0), 1);
        due("already", x.say(0, 0), -5);
        due("already", x.say(0, 1), -5);
        due("no such value", x.say(0, 2), -2);
        due("may(0)", x.may(0), 1);
        due("may(1)", x.may(1), 2);
        due("may", x.may(4) + x.may(-1), -4);
        due("forced", x.forced(), 14);
        due("lied", x.lied(), 1);
        due("still", x.still(), 3);
        due("say", x.say(3, 0), 1);
        due("said(0)", x.said(0), 0);
        due("said(1)", x.said(1), 6);
        due("said", x.said(2) + x.said(-1), -2);
        due("lied", x.lied(), 1);
        due("say", x.say(1, 1), 1);
        due("said(2)", x.said(2), 3);
        due("lied", x.lied(), 3);
        due("unsay", x.unsay(), 2);
        due("unsay", x.unsay(), 1);
        due("anew", x.anew(), 1);
        due("anew", x.anew(), 0);
        x.wish(0, -1);
        due("left", x.left(), 3);
        due("may(0)", x.may(0), 3);
        due("may(2)", x.may(2), 1);
        due("forced", x.forced(), 12);
        due("still", x.still(), 1);
        due("say", x.say(1, 1), 2);
        due("left", x.left(), 2);
        due("still", x.still(), 2);
        due("say", x.say(0, 1), 1);
        due("lied", x.lied(), 2);
        due("refused", x.say(2, 1), -5);
        due("count(7)", x.count(7), 2);
        due("unsay", x.unsay(), 1);
        due("left", x.left(), 2);
        due("may(0)", x.may(0), 3);
        due("say", x.say(0, 0), 1);
        due("said(1)", x.said(1), 0);
        due("anew", x.anew(), 2);
        LieKitchen y = Check.with("kitchen;claim so cost 1 found 1;");
        due("may(0)", y.may(0), 3);
        due("say", y.say(0, 0), 1);
        due("may(0)", y.may(0), 1);
        due("forced", y.forced(), 0);
        due("unsay", y.unsay(), 0);
        due("count(7)", y.count(7), 0);
        due("unsay", y.unsay(), -5);
        due("may(0)", y.may(0), 3);
    }

    private static void mates() {
        LieKitchen x = Check.with(K);
        due("witnesses(2)", x.witnesses(2), 7);
        due("witnesses(1)", x.witnesses(1), 2);
        due("witnesses(5)", x.witnesses(5), 0);
        due("witnesses", x.witnesses(16) + x.witnesses(-1), -4);
        due("mates", x.mates(), 20);
        due("mated", x.mated(), 2);
        due("quiet(7)", x.quiet(7), 3);
        due("quiet(3)", x.quiet(3), -1);
        due("quiet", x.quiet(8) + x.quiet(-1), -4);
        due("few", x.few(), 3);
        due("whom", x.whom(), 7);
        due("slips(0)", x.slips(0), 2);
        due("slips(1)", x.slips(1), 1);
        due("slips(2)", x.slips(2), 1);
        due("slips", x.slips(3) + x.slips(-1), -4);
        x.wish(1, 1);
        x.wish(0, -1);
        due("3 needs two of them", x.mates(), 15);
        due("mated", x.mated(), 3);
        due("few", x.few(), 2);
        due("whom", x.whom(), 3);
        due("quiet(3)", x.quiet(3), 2);
        due("quiet(2)", x.quiet(2), -1);
        due("slips(2)", x.slips(2), 0);
        x.wish(1, 0);
        x.wish(0, 0);
        due("none holds", x.mates() + x.mated() + x.few() + x.whom() + x.slips(0) + x.quiet(7), -6);
        LieKitchen y = Check.with("kitchen;claim so cost 0 found 1;claim so cost 0 found 1;law some not 0 not 1;"
                + "person cost 1 knows 1;person cost 1 knows 0;");
        due("the least story", y.mated(), 1);
        due("the least set", y.whom(), 1);
        due("quiet(2)", y.quiet(2), 1);
    }

    private static void naive() {
        LieKitchen x = Check.with(K);
        due("naive(0)", x.naive(0), 2);
        due("naive(1)", x.naive(1), 2);
        due("naive(2)", x.naive(2), 1);
        due("change(0)", x.change(0), 1);
        due("change(1)", x.change(1), 2);
        due("change", x.change(2) + x.change(-1), -2);
        due("naive", x.naive(3) + x.naive(-1), -4);
        x.learn(2, 1);
        due("no such claim: stuck", x.naive(0), 1);
        due("naive(1)", x.naive(1), 6);
        due("naive(2)", x.naive(2), 0);
        x.learn(2, 0);
        x.wish(3, 1);
        due("wanted against what is known", x.naive(1), 10);
        due("no law broken, but it does not hold", x.naive(2), 0);
        LieKitchen y = Check.with("kitchen;claim so cost 1 found 1;claim so cost 1 found 1;"
                + "law some not 0;law some 0;");
        due("not changed twice", y.naive(0), 1);
        due("naive(1)", y.naive(1), 2);
    }

    /** From seed 1 the draws are 38 58 13 15 51 27 10 19 12 86. */
    private static void drawn() {
        LieKitchen x = Check.with(K);
        due("one day", x.drawn(1, 2, 1, 0), 1);
        due("day", x.drawn(1, 2, 1, 1), 0);
        due("claim", x.drawn(1, 2, 1, 2), 2);
        due("two days", x.drawn(1, 2, 2, 0), 1);
        due("three days", x.drawn(1, 2, 3, 0), 2);
        due("six days", x.drawn(1, 2, 6, 0), 2);
        due("10 is not below 10", x.drawn(1, 4, 10, 0), 0);
        due("day", x.drawn(1, 4, 10, 1), -1);
        due("claim", x.drawn(1, 4, 10, 2), -1);
        x.price(0, 2, 11);
        due("10 is below 11", x.drawn(1, 4, 7, 0), 1);
        due("day", x.drawn(1, 4, 7, 1), 6);
        due("claim", x.drawn(1, 4, 7, 2), 0);
        due("six days", x.drawn(1, 4, 6, 0), 0);
        due("nothing untrue", x.drawn(0, 5, 60, 0), 0);
        due("never", x.drawn(0, 13, 60, 0), 0);
        due("seed 0 draws 0", x.drawn(0, 4, 1, 0), 1);
        x.price(2, 2, 100);
        x.price(1, 2, 100);
        due("each once", x.drawn(1, 2, 2, 0), 2);
        due("the first claim", x.drawn(1, 2, 2, 2), 1);
        due("the last seed", x.drawn(2000000000, 5, 60, 1), -1);
        due("seed", x.drawn(-1, 5, 1, 0) + x.drawn(2000000001, 5, 1, 0), -4);
        due("story", x.drawn(0, 16, 1, 0) + x.drawn(0, -1, 1, 0), -4);
        due("days", x.drawn(0, 5, 0, 0) + x.drawn(0, 5, 61, 0), -4);
        due("what", x.drawn(0, 5, 1, 3) + x.drawn(0, 5, 1, -1), -4);
    }

    private static void luck() {
        LieKitchen x = Check.with(K);
        due("seed 0 comes out, 1 not", x.luck(0, 2, 4, 1), 1);
        due("seed 1", x.luck(1, 1, 4, 10), 1);
        due("seed 0", x.luck(0, 1, 4, 10), 0);
        due("nothing untrue", x.luck(2000000000, 20, 5, 60), 20);
        due("m", x.luck(0, 0, 5, 1) + x.luck(0, 21, 5, 1), -4);
        due("seed", x.luck(-1, 1, 5, 1) + x.luck(2000000001, 1, 5, 1), -4);
        due("days", x.luck(0, 1, 5, 0) + x.luck(0, 1, 5, 61), -4);
        due("story", x.luck(0, 1, 16, 1) + x.luck(0, 1, -1, 1), -4);
    }

    private static void changing() {
        LieKitchen x = Check.with(K);
        due("learn", x.learn(3, 0), 1);
        due("learn", x.learn(3, 0), 0);
        due("claim", x.claim(3, 4), 0);
        due("count", x.count(3), 0);
        due("learn", x.learn(3, 1), 0);
        due("wish", x.wish(0, 1), 0);
        due("wish", x.wish(0, -1), 1);
        due("wish", x.wish(0, 0), -1);
        due("claim", x.claim(0, 5), 0);
        due("none such", x.learn(4, 0) + x.learn(-1, 0) + x.learn(0, 2) + x.learn(0, -1), -8);
        due("none such", x.wish(4, 0) + x.wish(-1, 0) + x.wish(0, 2) + x.wish(0, -2), -8);
        due("price", x.price(1, 3, 99), -1);
        due("price", x.price(1, 3, -1), 99);
        due("price", x.price(1, 1, 0), 3);
        due("price", x.price(1, 1, 99), 0);
        due("price", x.price(1, 2, 100), 20);
        due("claim", x.claim(1, 1), 99);
        due("claim", x.claim(1, 2), 100);
        due("claim", x.claim(1, 3), -1);
        due("n", x.price(1, 1, 100) + x.price(1, 2, 101) + x.price(1, 3, 100), -6);
        due("n", x.price(1, 1, -1) + x.price(1, 2, -1) + x.price(1, 3, -2), -6);
        due("what", x.price(1, 0, 1) + x.price(1, 4, 1) + x.price(4, 1, 1) + x.price(-1, 1, 1), -8);
        due("say", x.say(0, 0), 1);
        due("something was said", x.learn(0, 0) + x.wish(0, 1), -10);
        due("none such", x.learn(4, 0) + x.wish(0, 2), -4);
        due("price then, too", x.price(0, 1, 1), 5);
    }

    private static void counting() {
        LieKitchen x = Check.with(K);
        int[] want = {4, 3, 3, 1, 1, 13, 0, 0, 0, -1, -1};
        for (int what = 0; what < want.length; what++) {
            due("count " + what, x.count(what), want[what]);
        }
        x.feed(0, 0, 0, 0, 0);
        x.row(2, 0, 0);
        x.say(0, 0);
        due("count", x.count(6) * 100 + x.count(7) * 10 + x.count(8), 2011);
        due("count(-1)", x.count(-1), -1);
        for (int slot = 0; slot < 4; slot++) {
            x.row(slot, 1, slot);
        }
        due("count(8)", x.count(8), 4);
    }

    private static void images() {
        LieKitchen x = Check.with(K);
        due("k", x.keep(3) + x.keep(-1) + x.back(3) + x.back(-1), -8);
        due("nothing", x.back(2), -6);
        x.say(0, 0);
        due("keep", x.keep(2), 0);
        due("anew", x.anew(), 1);
        x.wish(0, -1);
        x.learn(3, 0);
        x.price(0, 1, 77);
        due("keep", x.keep(0), 0);
        Check.kitchen(x, EMPTY);
        Check.feed(x, "kitchen");
        x.row(1, 1, 1);
        due("back", x.back(2), 0);
        due("said", x.said(0), 0);
        due("wanted", x.claim(0, 5), 0);
        due("known", x.claim(3, 4), 1);
        due("cost", x.claim(0, 1), 5);
        due("lines", x.count(5), 13);
        due("stories", x.stories(), 1);
        due("law", x.law(1, 0), 10);
        due("person", x.person(0, 0), 9);
        due("the tape stays", x.count(6), 7);
        due("the slots stay", x.count(8), 1);
        x.unsay();
        x.price(0, 1, 6);
        due("back again", x.back(2), 0);
        due("cost", x.claim(0, 1), 5);
        due("said", x.count(7), 1);
        due("the other", x.back(0), 0);
        due("cost", x.claim(0, 1), 77);
        due("known", x.count(3), 0);
        due("stories", x.stories(), 7);
        Check.kitchen(x, "");
        due("keep no kitchen", x.keep(0), 0);
        due("back", x.back(2), 0);
        due("back to none", x.back(0), 0);
        due("no kitchen", x.truth(), -2);
    }

    private static void rows() {
        LieKitchen x = Check.with(K);
        due("row", x.row(4, 0, 1) + x.row(-1, 0, 1) + x.row(0, 4, 1) + x.row(0, -1, 1) + x.row(0, 0, 61), -10);
        due("-2 ahead of -3", x.row(4, 0, -1) + x.row(0, 4, -1), -4);
        due("nothing yet", x.count(8), 0);
        Check.row(x, 0, 3, 1, 1);
        due("below 0", x.row(0, 0, -1), -3);
        due("the slot stays", x.fits(0), 2);
        due("row", x.row(0, 3, 60), 0);
        due("all 0, and 0 not", x.fits(0), 1);
        due("write", x.write(0, 59, 1), 0);
        due("write", x.write(0, 60, 1) + x.write(0, -1, 1), -14);
        due("write", x.write(4, 0, 1) + x.write(-1, 0, 1), -4);
        due("write", x.write(1, 0, 1), -6);
        long[] more = {1L << 8, 1L << 16, 1L << 32};
        for (int width = 0; width < 4; width++) {
            Check.row(x, 1, width, 1, 1);
            for (int i = 0; i < 3; i++) {
                x.write(1, 1, more[i] + 1);
                due("cut " + width + " " + i, x.judge(1), i >= width ? 1 : -2);
            }
            x.write(1, 1, -1);
            due("cut", x.judge(1), -2);
        }
        due("none of its numbers", x.row(2, 0, 0), 0);
        due("write", x.write(2, 0, 1), -7);
    }

    private static void pasting() {
        LieKitchen x = Check.with(K);
        Check.row(x, 0, 2, 0, 1, 2, 3, 1, 1);
        Check.row(x, 1, 2, 0, 0);
        x.row(2, 1, 2);
        due("slot", x.paste(4, 0, 0, 0, 1) + x.paste(-1, 0, 0, 0, 1) + x.paste(0, 0, 4, 0, 1) + x.paste(0, 0, -1, 0, 1), -8);
        due("nothing", x.paste(0, 0, 3, 0, 1) + x.paste(3, 0, 0, 0, 1), -12);
        due("nothing ahead of width", x.paste(3, 0, 2, 0, -1), -6);
        due("width", x.paste(0, 0, 2, 0, -1), -8);
        due("beyond", x.paste(0, 5, 1, 0, 2) + x.paste(0, 0, 1, 0, 3) + x.paste(0, 0, 1, 1, 2), -21);
        due("beyond, none of them", x.paste(0, 7, 1, 0, 0) + x.paste(0, 0, 1, 3, 0), -14);
        due("below 0", x.paste(0, -1, 1, 0, 1) + x.paste(0, 0, 1, -1, 1) + x.paste(0, 0, 1, 0, -1), -21);
        due("far beyond", x.paste(0, Integer.MAX_VALUE, 1, 0, Integer.MAX_VALUE), -7);
        due("nothing happened", x.fits(1), 1);
        due("none at the end", x.paste(0, 6, 1, 2, 0), 0);
        due("paste", x.paste(0, 4, 1, 0, 2), 0);
        due("1 so", x.must(1, 0), 2);
        // 0 1 2 3 1 1 becomes 0 0 1 2 3 1, as they were.
        due("its own", x.paste(0, 0, 0, 1, 5), 0);
        x.write(0, 3, 1);
        due("0 not, 1 so, 3 so", x.judge(0), 2);
        x.write(0, 5, 0);
        due("0 not, 1 so, 3 not", x.must(0, 0), 2);
        due("its own, back", x.paste(0, 2, 0, 0, 4), 0);
        due("1 so, 3 not, 3 not", x.fits(0), 2);
    }

    private static void noSoundStory() {
        LieKitchen x = Check.with(IMPOSSIBLE);
        due("stories", x.stories(), 0);
        due("no wish at all can be had", x.clash(), 0);
        due("clashed", x.clashed(), 0);
        due("caught as it is", x.catches(), 0);
        due("caught", x.caught(), 0);
        due("lie", x.lie(0), -1);
        due("needs", x.needs(0), 0);
        due("fixed", x.fixed(0) + x.fixed(1), 0);
        due("owning", x.owning(), -1);
        due("confess", x.confess() + x.confessed(), -2);
        due("left", x.left(), 0);
        due("may", x.may(0), 0);
        due("forced", x.forced(), 0);
        due("still", x.still(), -1);
        due("say", x.say(0, 1), -5);
        due("naive", x.naive(0) * 100 + x.naive(1) * 10 + x.naive(2), 10);
        Check.row(x, 0, 0);
        due("judge", x.judge(0) + x.fits(0) + x.leaves(0), 0);
        due("least", x.least(0) + x.lies(0) + x.ask(0) + x.likely(0, 0), -4);
        due("learn", x.learn(0, 0), 1);
        due("stories", x.stories(), 1);
        due("caught", x.caught(), 1);
    }

    private static void noClaims() {
        LieKitchen x = new LieKitchen();
        due("kitchen", Check.kitchen(x, EMPTY), 1);
        due("one story", x.stories(), 1);
        due("it is 0", x.story(0) + x.truth() + x.told() + x.cheaply() + x.safest() + x.mated(), 0);
        due("none untrue", x.fewest() + x.cheap() + x.mates() + x.few() + x.whom() + x.quiet(0) + x.still(), 0);
        due("no clash", x.clash() + x.clashed() + x.catches() + x.caught() + x.owning(), -5);
        due("confess", x.confess() + x.confessed(), 0);
        due("naive", x.naive(2), 1);
        due("holds", x.holds(0), 1);
        due("no story 1", x.holds(1), -2);
        due("no claim", x.lie(0) + x.own(0) + x.say(0, 0) + x.may(0), -8);
        due("left", x.left(), 1);
        due("risk", x.risk(0, 1, 1), 1);
        due("quiet", x.quiet(1), -2);
    }
}
