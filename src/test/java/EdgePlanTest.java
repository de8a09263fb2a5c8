/**
 * Promise 20, with what 'Terms' say of a PLAN and its FAULTS, which plan() answers: each sentence that names
 * a boundary, at it and a step to either side.
 */
public final class EdgePlanTest {
    private static final Check CHECK = new Check();
    private static final String BROOK = "good w 0;good v 0;work a;gives a w 1;makes a 1;work b;takes b w 1 9 0;makes b 1;";
    private static final String STOP = "stops a 0 0;";

    private EdgePlanTest() {
    }

    public static void main(String[] args) {
        planOfNoLines();
        planOf300Bytes();
        tokensAheadOfTheMostAreReadWhole();
        twentyLinesAtMost();
        stopsFrom0To199();
        stopsTillNoLessThanFrom();
        itStandsThen();
        bringsOf1To99();
        bringsInHour0To199();
        bringsAheadOfAllElse();
        aWorkThatTakesIt();
        namesOfThePlan();
        fault1AtTheEnd();
        faultsTheFirstAlongTheText();
        promise20TheTapeIsEmptyThen();
        promise20HowManyLines();
        promise20ItStays();
        promise20WithoutWorks();
        sixGoodsAndEightWorks();
        CHECK.close("EdgePlanTest");
    }

    private static void fault(String text, int place, int kind) {
        WasteBrook x = Check.of(BROOK);
        CHECK.eq("plan() of " + text, Check.plan(x, text), -1 - place);
        CHECK.eq("fault() of " + text, x.fault(), kind);
        CHECK.eq("the tape behind " + text, x.count(7), 0);
        CHECK.eq("no PLAN by " + text, x.count(6), 0);
    }

    private static WasteBrook fine(String text, int lines) {
        WasteBrook x = Check.of(BROOK);
        CHECK.eq("plan() of " + text, Check.plan(x, text), lines);
        CHECK.eq("fault() of " + text, x.fault(), 0);
        CHECK.eq("the tape behind " + text, x.count(7), 0);
        CHECK.eq("count(6) of " + text, x.count(6), lines);
        return x;
    }

    /** PLAN: "{ LINE ; }": none is one. */
    private static void planOfNoLines() {
        fine("", 0);
        fine(" \n", 0);
        fine(" ".repeat(300), 0);
        fault(" ".repeat(301), 300, 1);
        fault(";", 0, 1);
        fault(STOP + ";", 12, 1);
    }

    /** PLAN: "a text of at most 300 bytes": 299, 300 and 301 of them. */
    private static void planOf300Bytes() {
        fine(STOP + " ".repeat(287), 1);
        fine(STOP + " ".repeat(288), 1);
        fault(STOP + " ".repeat(289), 300, 1);
        fault(STOP + " ".repeat(928), 300, 1);
        fine(" ".repeat(287) + STOP, 1);
        fine(" ".repeat(288) + STOP, 1);
        fault(" ".repeat(289) + STOP, 300, 1);
        fine((STOP + "\n\n\n").repeat(20), 20);
        fault((STOP + "\n\n\n").repeat(20) + "\n", 300, 1);
    }

    /** FAULTS: "TOKENS that begin ahead of it are read whole", one that begins at it is not. */
    private static void tokensAheadOfTheMostAreReadWhole() {
        fault("stops a 199 " + " ".repeat(287) + "199;", 300, 1);
        fault("stops a 199 " + " ".repeat(287) + "200;", 299, 2);
        fault("stops a 199 " + " ".repeat(287) + "198;", 299, 2);
        fault("stops a 199 " + " ".repeat(288) + "200;", 300, 1);
        fault("stops a 199 " + " ".repeat(287) + "1990;", 299, 1);
        fault("stops" + " ".repeat(294) + "abcdef 0 0;", 299, 3);
        fault("stops" + " ".repeat(294) + "abcdefg 0 0;", 299, 1);
        fault("stops" + " ".repeat(295) + "abcdef 0 0;", 300, 1);
        fault(STOP.repeat(20) + " ".repeat(59) + "stops", 299, 4);
        fault(STOP.repeat(20) + " ".repeat(60) + "stops", 300, 1);
    }

    /** PLAN: "20 at most"; FAULTS: 4 "a 21st LINE of a PLAN" (at the LINE's first WORD). */
    private static void twentyLinesAtMost() {
        fine(STOP.repeat(19), 19);
        fine(STOP.repeat(20), 20);
        fault(STOP.repeat(21), 240, 4);
        fault(STOP.repeat(20) + " stops", 241, 4);
        fault(STOP.repeat(20) + "brings", 240, 4);
        fault(STOP.repeat(20) + "joined", 240, 1);
        fault(STOP.repeat(20) + ";", 240, 1);
        fault(STOP.repeat(20) + "a", 240, 1);
        fault(STOP.repeat(19) + "stops a 0;", 237, 1);
        // the twentieth counts, too
        WasteBrook x = fine("stops b 0 0;".repeat(19) + "stops a 0 1;", 20);
        x.begin();
        x.on(3);
        CHECK.eq("a stood in two", x.went(0, 1), 2);
        CHECK.eq("b in the first, and in the next for want of w", x.went(1, 1), 2);
        WasteBrook brings = fine(STOP.repeat(19) + "brings b w 7 2;", 20);
        brings.begin();
        brings.on(2);
        CHECK.eq("b's vat ahead of HOUR 2", brings.vat(1, 0), 0);
        brings.on(1);
        CHECK.eq("7 are brought, 1 comes, 1 is used", brings.vat(1, 0), 7);
        CHECK.eq("brought", brings.parts(0, 1), 7);
        WasteBrook stops = fine("stops a 5 5;".repeat(19) + "stops b 3 4;", 20);
        stops.begin();
        int[] stood = {0, 0, 0, 0, 1, 2, 2};
        for (int hours = 0; hours < 7; hours++) {
            CHECK.eq("b stood behind " + hours + " HOURS in", stops.went(1, 1), stood[hours]);
            stops.on(1);
        }
    }

    /** PLAN: "HOURS of a RUN 0 to 199". */
    private static void stopsFrom0To199() {
        fine("stops a 0 0;", 1);
        fine("stops a 0 199;", 1);
        fine("stops a 0 198;", 1);
        fine("stops a 199 199;", 1);
        fine("stops a 198 199;", 1);
        fault("stops a 200 200;", 8, 2);
        fault("stops a 200 199;", 8, 2);
        fault("stops a 199 200;", 12, 2);
        fault("stops a 0 200;", 10, 2);
        fault("stops a 0 999;", 10, 2);
        fault("stops a 0 1000;", 10, 1);
    }

    /** PLAN: "TILL no less than FROM": one less, alike, one more. */
    private static void stopsTillNoLessThanFrom() {
        fault("stops a 5 4;", 10, 2);
        fine("stops a 5 5;", 1);
        fine("stops a 5 6;", 1);
        fault("stops a 199 198;", 12, 2);
        fault("stops a 1 0;", 10, 2);
        fault("stops a 12 11;", 11, 2);
    }

    /** PLAN: "it stands then": an HOUR ahead of FROM, FROM, TILL and an HOUR behind it; at the ends of the RUN. */
    private static void itStandsThen() {
        int[][] spans = {{0, 0}, {0, 1}, {5, 5}, {11, 12}, {12, 13}, {198, 198}, {198, 199}, {199, 199}, {0, 199}};
        for (int[] span : spans) {
            WasteBrook x = fine("stops a " + span[0] + " " + span[1] + ";", 1);
            x.begin();
            int hour = Math.max(0, span[0] - 1);
            x.on(hour);
            for (; hour <= Math.min(199, span[1] + 1) && hour < span[0] + 4; hour++) {
                x.on(1);
                boolean stands = span[0] <= hour && hour <= span[1];
                CHECK.eq("a in HOUR " + hour + " by " + span[0] + " " + span[1], x.went(0, 5), stands ? 0 : 1);
            }
            x.on(200);
            CHECK.eq("HOURS in which it stood", x.went(0, 1), span[1] - span[0] + 1);
            CHECK.eq("b goes with it", x.went(1, 0), x.went(0, 0));
        }
        WasteBrook both = Check.of("work a;work b;work c;");
        Check.plan(both, "stops c 1 3;stops a 0 1;stops b 1 2;stops c 2 4;");
        int[] stand = {1, 7, 6, 4, 4, 0};
        both.begin();
        for (int hour = 0; hour < 6; hour++) {
            both.on(1);
            int bits = 0;
            for (int w = 0; w < 3; w++) {
                bits |= (1 - both.went(w, 5)) << w;
            }
            CHECK.eq("who stands in HOUR " + hour, bits, stand[hour]);
        }
    }

    /** PLAN: "'brings' WORK GOOD N HOUR (1 to 99;". */
    private static void bringsOf1To99() {
        fault("brings b w 0 0;", 11, 2);
        fault("brings b w 000 0;", 11, 2);
        fine("brings b w 1 0;", 1);
        fine("brings b w 2 0;", 1);
        fine("brings b w 98 0;", 1);
        fine("brings b w 99 0;", 1);
        fault("brings b w 100 0;", 11, 2);
        WasteBrook x = fine("brings b w 99 0;", 1);
        x.begin();
        x.on(1);
        CHECK.eq("99 were brought", x.parts(0, 1), 99);
        CHECK.eq("90 beyond SIZE", x.parts(0, 4), 90);
    }

    /** PLAN: "0 to 199: into its vat": in that HOUR, not the one ahead nor the one behind. */
    private static void bringsInHour0To199() {
        fine("brings b w 1 0;", 1);
        fine("brings b w 1 198;", 1);
        fine("brings b w 1 199;", 1);
        fault("brings b w 1 200;", 13, 2);
        fault("brings b w 1 999;", 13, 2);
        for (int hour : new int[] {0, 1, 11, 12, 198, 199}) {
            WasteBrook x = fine("brings b w 3 " + hour + ";", 1);
            x.begin();
            x.on(hour);
            CHECK.eq("nothing ahead of HOUR " + hour, x.parts(0, 1), 0);
            x.on(1);
            CHECK.eq("3 in it", x.parts(0, 1), 3);
            x.on(200);
            CHECK.eq("and no more", x.parts(0, 1), 3);
        }
    }

    /** PLAN: "ahead of all else in that HOUR": it is used in it, and what comes finds less room; lines of one HOUR come together. */
    private static void bringsAheadOfAllElse() {
        WasteBrook x = Check.of("good w 0;work a;gives a w 5;work b 0 0;takes b w 2 4 0;");
        Check.plan(x, "brings b w 1 0;brings b w 2 0;");
        x.begin();
        x.on(1);
        CHECK.eq("3 brought, 1 of 5 taken, 2 used", x.vat(1, 0), 2);
        CHECK.eq("4 let out", x.parts(0, 5), 4);
        CHECK.eq("nothing lost", x.parts(0, 4), 0);
        // a vat with room for 4 is brought 3, 4, 5
        for (int n = 3; n <= 5; n++) {
            WasteBrook y = Check.of("good w 0;work b 11 11;takes b w 2 6 2;");
            Check.plan(y, "brings b w " + n + " 0;");
            y.begin();
            y.on(1);
            CHECK.eq("in the vat by " + n, y.vat(0, 0), Math.min(6, 2 + n));
            CHECK.eq("brought " + n, y.parts(0, 1), n);
            CHECK.eq("lost by " + n, y.parts(0, 4), Math.max(0, n - 4));
        }
        WasteBrook z = Check.of("good w 0;work b 11 11;takes b w 2 6 2;");
        Check.plan(z, "brings b w 3 0;brings b w 3 0;stops b 0 0;");
        z.begin();
        z.on(1);
        CHECK.eq("the second of one HOUR finds room for 1", z.vat(0, 0) * 100 + z.parts(0, 4), 602);
    }

    /** PLAN: "a WORK that takes it"; FAULTS: 3 a GOOD "that it does not take (at the GOOD)". */
    private static void aWorkThatTakesIt() {
        fine("brings b w 1 1;", 1);
        fault("brings b v 1 1;", 9, 3);
        fault("brings a w 1 1;", 9, 3);
        fault("brings a w 0 200;", 9, 3);
        fault("brings a", 8, 1);
        WasteBrook x = Check.of(BROOK);
        Check.brook(x, BROOK.replace("takes b w 1 9 0;", "takes b v 1 9 0;"));
        CHECK.eq("as it is told now", Check.plan(x, "brings b w 1 1;"), -10);
        CHECK.eq("the other now", Check.plan(x, "brings b v 1 1;"), 1);
    }

    /** FAULTS: 3 a NAME "not told, or of another sort", and 1, where no NAME stands. */
    private static void namesOfThePlan() {
        fault("stops c 0 0;", 6, 3);
        fault("stops w 0 0;", 6, 3);
        fault("stops stops 0 0;", 6, 1);
        fault("stops 1 0 0;", 6, 1);
        fault("stops ; 0 0;", 6, 1);
        fault("brings c w 1 1;", 7, 3);
        fault("brings w w 1 1;", 7, 3);
        fault("brings b c 1 1;", 9, 3);
        fault("brings b a 1 1;", 9, 3);
        fault("brings b place 1 1;", 9, 1);
        fault("brings b 1 1 1;", 9, 1);
        fault("good x 0;", 0, 1);
        fault("makes a 1;", 0, 1);
        fault("a 0 0;", 0, 1);
    }

    /** FAULTS: 1 at "the end: how many bytes there are". */
    private static void fault1AtTheEnd() {
        for (String text : new String[] {"stops", "stops a", "stops a 0", "stops a 0 0", "brings", "brings b", "brings b w", "brings b w 1", "brings b w 1 1", STOP + "stops"}) {
            fault(text, text.length(), 1);
            fault(text + "\n", text.length() + 1, 1);
            fault(text + " ".repeat(299 - text.length()), 299, 1);
            fault(text + " ".repeat(300 - text.length()), 300, 1);
            fault(text + " ".repeat(301 - text.length()), 300, 1);
        }
    }

    /** "FAULTS, the first along the text, of one TOKEN the least". */
    private static void faultsTheFirstAlongTheText() {
        fault("stops c 200 0;", 6, 3);
        fault("stops a 200 0?", 8, 2);
        fault("stops a 1 0?", 10, 2);
        fault("stops a 1 1?", 11, 1);
        fault("stops a 1 a;", 10, 1);
        fault("brings b w 100 200;", 11, 2);
        fault("brings b w 99 200;", 14, 2);
        fault(STOP.repeat(20) + "?", 240, 1);
    }

    /** Promise 20 (and 4: "empty then, here and below"). */
    private static void promise20TheTapeIsEmptyThen() {
        WasteBrook x = fine(STOP, 1);
        CHECK.eq("an empty tape is the next PLAN", x.plan(), 0);
        CHECK.eq("no LINES", x.count(6), 0);
        Check.plan(x, "stops");
        CHECK.eq("behind a FAULT", x.count(7), 0);
    }

    /** Promise 20: "how many LINES": a PLAN is in place of the one ahead, with none of its LINES. */
    private static void promise20HowManyLines() {
        fine("", 0);
        fine(STOP, 1);
        fine(STOP + STOP, 2);
        WasteBrook x = fine("stops a 0 5;brings b w 9 0;stops b 1 1;", 3);
        CHECK.eq("one", Check.plan(x, "stops b 0 0;"), 1);
        x.begin();
        x.on(2);
        CHECK.eq("a goes", x.went(0, 0), 2);
        CHECK.eq("nothing is brought", x.parts(0, 1), 0);
        CHECK.eq("b went in HOUR 1", x.went(1, 4), 1);
        CHECK.eq("none", x.plan(), 0);
        x.begin();
        x.on(2);
        CHECK.eq("b is not stopped any more", x.went(1, 0), 2);
    }

    /** Promise 20: "-1 less the place of a FAULT: it stays": the PLAN, and all else. */
    private static void promise20ItStays() {
        String[] wrong = {"?", "stops", "stops b 0 199", "stops b 0 199;brings b w 9 200;", "stops b 0 199;".repeat(21), "stops v 0 199;", "brings a w 9 5;"};
        int[] places = {0, 5, 13, 27, 280, 6, 9};
        for (int i = 0; i < wrong.length; i++) {
            String text = wrong[i];
            Twin.tapeAlone(CHECK, "plan() of " + text, x -> {
                x.end(0);
                return Check.plan(x, text);
            }, -1 - places[i]);
        }
    }

    /** Promise 20: without WORKS there can be a PLAN of no LINES alone. */
    private static void promise20WithoutWorks() {
        WasteBrook x = new WasteBrook();
        CHECK.eq("none", x.plan(), 0);
        CHECK.eq("one", Check.plan(x, STOP), -7);
        CHECK.eq("no such NAME", x.fault(), 3);
    }

    /** PLAN: the last GOOD and WORK there can be, and the first, by their NAMES. */
    private static void sixGoodsAndEightWorks() {
        WasteBrook x = Check.of("good a 0;good b 0;good c 0;good d 0;good e 0;good f 0;work p;takes p a 1 99 0;work q;work r;work s;work t;work u;work v;"
            + "work w;takes w f 1 99 0;");
        CHECK.eq("LINES", Check.plan(x, "brings w f 99 1;brings p a 98 0;stops w 0 2;stops p 3 3;"), 4);
        x.begin();
        x.on(1);
        CHECK.eq("98 less 1", x.vat(0, 0), 97);
        CHECK.eq("not yet", x.vat(7, 5), 0);
        x.on(4);
        CHECK.eq("p stood in HOUR 3", x.vat(0, 0), 94);
        CHECK.eq("w in HOURS 0 to 2", x.vat(7, 5), 97);
        CHECK.eq("a FAULT at the GOOD, which w does not take", Check.plan(x, "brings w e 1 1;"), -10);
        CHECK.eq("of kind 3", x.fault(), 3);
        CHECK.eq("a FAULT at the GOOD, which v does not take", Check.plan(x, "brings v f 1 1;"), -10);
        CHECK.eq("of kind 3", x.fault(), 3);
    }
}
