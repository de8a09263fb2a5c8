/** Promises 9 to 16, 19 and 20: the RUN, HOUR by HOUR, and its PLAN. */
public final class RunTest {
    private static final Check CHECK = new Check();
    /** a gives 5, 4 come to b, which uses 3. */
    private static final String CHAIN = "good w 1;work a;gives a w 5;makes a 2;work b;takes b w 3 6 0;makes b 7;";

    private RunTest() {
    }

    public static void main(String[] args) {
        hoursOneByOne();
        hoursOfTheDay();
        onCountsWhatWasDone();
        noRun();
        wrongArguments();
        theRing();
        fedAndLost();
        found();
        foundSoFar();
        beginIsAnew();
        marksGoWhenEmpty();
        comesIsAsGiven();
        lacking();
        plans();
        planFaults();
        partsAreWhole();
        CHECK.close("RunTest");
    }

    private static void row(String what, int[] got, int... want) {
        for (int i = 0; i < want.length; i++) {
            CHECK.eq(what + " [" + i + "]", got[i], want[i]);
        }
    }

    private static int[] parts(WasteBrook x, int g) {
        int[] all = new int[8];
        for (int what = 0; what < 8; what++) {
            all[what] = x.parts(g, what);
        }
        return all;
    }

    private static int[] went(WasteBrook x, int w) {
        int[] all = new int[6];
        for (int what = 0; what < 6; what++) {
            all[what] = x.went(w, what);
        }
        return all;
    }

    private static void hoursOneByOne() {
        WasteBrook x = Check.of(CHAIN);
        CHECK.yes("begin()", x.begin());
        row("parts at first", parts(x, 0), 0, 0, 0, 0, 0, 0, 0, 0);
        row("went at first", went(x, 1), 0, 0, 0, 0, -1, 0);
        int[] vats = {1, 2, 3, 3, 3};
        for (int h = 0; h < 5; h++) {
            CHECK.eq("on(1)", x.on(1), 1);
            CHECK.eq("the vat behind HOUR " + h, x.vat(1, 0), vats[h]);
        }
        row("parts behind five", parts(x, 0), 0, 0, 25, 15, 5, 2, 3, 0);
        row("went of b", went(x, 1), 5, 0, 35, 1, 4, 1);
        row("went of a", went(x, 0), 5, 0, 10, 0, 4, 1);
        CHECK.eq("made()", x.made(), 45);
        CHECK.yes("begin() once more", x.begin());
        CHECK.eq("hour()", x.hour(), 0);
        CHECK.eq("made()", x.made(), 0);
        row("all anew", parts(x, 0), 0, 0, 0, 0, 0, 0, 0, 0);
    }

    private static void hoursOfTheDay() {
        WasteBrook x = Check.run("good w 0;work a 2 3;gives a w 1;makes a 1;work b 11 11;takes b w 2 9 2;", 11);
        row("a", went(x, 0), 2, 9, 2, 0, 3, 0);
        row("b ahead of its hour", went(x, 1), 0, 11, 0, 0, -1, 0);
        x.on(1);
        row("b in its hour", went(x, 1), 1, 11, 0, 1, 11, 1);
        x.on(12);
        row("a in two DAYS", went(x, 0), 4, 20, 4, 0, 15, 0);
        row("b in two DAYS", went(x, 1), 2, 22, 0, 1, 23, 1);
        CHECK.eq("the vat", x.vat(1, 0), 2);
    }

    private static void onCountsWhatWasDone() {
        WasteBrook x = Check.of(CHAIN);
        x.begin();
        CHECK.eq("on(0)", x.on(0), 0);
        CHECK.eq("on(150)", x.on(150), 150);
        CHECK.eq("on(-1)", x.on(-1), -1);
        CHECK.eq("on(201)", x.on(201), -1);
        CHECK.eq("on(largest)", x.on(Integer.MAX_VALUE), -1);
        CHECK.eq("hour()", x.hour(), 150);
        CHECK.eq("on(200)", x.on(200), 50);
        CHECK.eq("hour()", x.hour(), 200);
        CHECK.eq("on(1)", x.on(1), 0);
        CHECK.eq("went in HOUR 199", x.went(0, 4), 199);
        CHECK.eq("went in all", x.went(1, 0), 200);
        CHECK.yes("begin()", x.begin());
        CHECK.eq("on(200) from the first", x.on(200), 200);
    }

    private static void noRun() {
        WasteBrook x = Check.of(CHAIN);
        CHECK.eq("on", x.on(1), -1);
        CHECK.eq("hour", x.hour(), -1);
        CHECK.eq("vat", x.vat(1, 0), -1);
        CHECK.eq("went", x.went(0, 0), -1);
        CHECK.eq("parts", x.parts(0, 0), -1);
        CHECK.eq("comes", x.comes(1, 0), -1);
        CHECK.eq("lacks", x.lacks(1, 0), -1);
        CHECK.eq("made", x.made(), -1);
        CHECK.eq("write", x.write(), -1);
        WasteBrook goodsAlone = Check.of("good a 0;joined;");
        CHECK.no("begin() without WORKS", goodsAlone.begin());
        CHECK.eq("hour", goodsAlone.hour(), -1);
    }

    private static void wrongArguments() {
        WasteBrook x = Check.run(CHAIN, 2);
        int[][] none = {{0, 0}, {2, 0}, {-1, 0}, {1, 1}, {1, -1}, {Integer.MAX_VALUE, 0}, {0, Integer.MIN_VALUE}};
        for (int[] wg : none) {
            CHECK.eq("vat", x.vat(wg[0], wg[1]), -1);
            CHECK.eq("comes", x.comes(wg[0], wg[1]), -1);
            CHECK.eq("lacks", x.lacks(wg[0], wg[1]), -1);
        }
        int[][] odd = {{2, 0}, {-1, 0}, {0, 6}, {0, -1}, {Integer.MIN_VALUE, 3}};
        for (int[] ww : odd) {
            CHECK.eq("went", x.went(ww[0], ww[1]), -1);
        }
        int[][] oddParts = {{1, 0}, {-1, 0}, {0, 8}, {0, -1}, {0, Integer.MAX_VALUE}};
        for (int[] gw : oddParts) {
            CHECK.eq("parts", x.parts(gw[0], gw[1]), -1);
        }
    }

    /** What is on its way to the top loses there, not ahead of it. */
    private static void theRing() {
        WasteBrook x = Check.of("good w 2;work a 0 0;gives a w 9;work b;takes b w 1 3 0;joined;");
        x.begin();
        x.on(1);
        row("9, 2 lost, 3 taken", parts(x, 0), 0, 0, 9, 1, 2, 0, 2, 4);
        x.on(1);
        row("2 lost at the top, 2 below a", parts(x, 0), 0, 0, 9, 2, 6, 0, 1, 0);
        WasteBrook y = Check.of("good w 0;work a 1 1;takes a w 4 9 0;work b 0 0;gives b w 4;joined;");
        y.begin();
        y.on(1);
        CHECK.eq("on its way", y.parts(0, 7), 4);
        y.on(1);
        CHECK.eq("there", y.went(0, 0), 1);
        CHECK.eq("whose it was", y.went(0, 3), 2);
        CHECK.eq("from whom it came", y.comes(0, 0), 2);
        WasteBrook alone = Check.run("good w 1;work a 0 0;gives a w 3;joined;", 4);
        row("one WORK: only the way to the top loses", parts(alone, 0), 0, 0, 3, 0, 3, 0, 0, 0);
        WasteBrook open = Check.run("good w 1;work a;gives a w 3;", 4);
        row("none below the last", parts(open, 0), 0, 0, 12, 0, 0, 12, 0, 0);
    }

    private static void fedAndLost() {
        WasteBrook x = Check.run("good w 9;good v 3;work a 0 0;feeds a w 4;feeds a v 8;work b 0 0;takes b v 1 2 0;", 2);
        row("w is all lost", parts(x, 0), 8, 0, 0, 0, 8, 0, 0, 0);
        row("v", parts(x, 1), 16, 0, 0, 1, 6, 7, 2, 0);
        CHECK.eq("what is fed has no marks", x.went(1, 3), 0);
        CHECK.eq("and comes from none", x.comes(1, 1), 0);
    }

    private static void found() {
        WasteBrook x = Check.of("good p 0;good q 0;work a;gives a p 2;work b;takes b p 1 1 1;gives b q 1;work c;takes c q 1 2 1;");
        x.begin();
        x.on(1);
        CHECK.eq("b used what it had", x.went(1, 3), 0);
        CHECK.eq("c found b in its vat", x.went(2, 3), 2);
        CHECK.eq("a found none", x.went(0, 3), 0);
        x.on(1);
        CHECK.eq("b found a", x.went(1, 3), 1);
        CHECK.eq("c found a in what b gave", x.went(2, 3), 3);
        CHECK.eq("c was given by b alone", x.comes(2, 1), 2);
        CHECK.eq("what is left of it", x.vat(2, 1), 1);
    }

    private static void foundSoFar() {
        WasteBrook x = Check.of("good p 0;work a 0 0;gives a p 1;work b 1 1;gives b p 1;work c;takes c p 1 1 0;");
        x.begin();
        x.on(1);
        CHECK.eq("a in the first HOUR", x.went(2, 3) * 10 + x.comes(2, 0), 11);
        x.on(1);
        CHECK.eq("and b in the second", x.went(2, 3) * 10 + x.comes(2, 0), 33);
        x.on(5);
        CHECK.eq("so far", x.went(2, 3) * 10 + x.comes(2, 0), 33);
    }

    /** No mark of the RUN ahead is left: not in vats, not on the way, not in what is told. */
    private static void beginIsAnew() {
        WasteBrook x = Check.of("good p 0;good q 0;work a 0 0;gives a p 2;work b 1 11;takes b p 1 3 1;work d;takes d q 1 1 0;work e 0 0;gives e q 1;feeds d q 1;joined;");
        x.begin();
        x.on(13);
        CHECK.eq("b found a", x.went(1, 3), 1);
        CHECK.eq("d found e", x.went(2, 3), 8);
        CHECK.eq("b lacks", x.lacks(1, 0), 8);
        CHECK.eq("q is on its way", x.parts(1, 7), 2);
        x.begin();
        CHECK.eq("found by b", x.went(1, 3), 0);
        CHECK.eq("came to b", x.comes(1, 0), 0);
        CHECK.eq("b lacks nothing yet", x.lacks(1, 0), 0);
        Check.plan(x, "stops a 0 199;stops e 0 199;");
        x.on(2);
        CHECK.eq("b used what it had", x.went(1, 0), 1);
        CHECK.eq("in which none is found", x.went(1, 3), 0);
        CHECK.eq("d used what was fed", x.went(2, 0), 2);
        CHECK.eq("in which none is found, either", x.went(2, 3), 0);
        CHECK.eq("it came from none", x.comes(2, 1), 0);
    }

    /** a gives in hour 0 only; what c has from it is used up before b's comes. */
    private static void marksGoWhenEmpty() {
        WasteBrook x = Check.of("good p 0;good q 0;work a 0 0;gives a p 1;work b;feeds b p 1;takes b p 1 1 0;gives b q 1;");
        x.begin();
        x.on(1);
        CHECK.eq("b found a", x.went(1, 3), 1);
        WasteBrook y = Check.of("good p 0;good q 0;work a 0 0;gives a p 2;work b;feeds b p 1;takes b p 1 3 0;gives b q 1;work c 1 9;takes c q 1 9 0;");
        y.begin();
        y.on(1);
        CHECK.eq("two are left in b's vat", y.vat(1, 0), 2);
        CHECK.eq("comes of a", y.comes(1, 0), 1);
        y.on(3);
        CHECK.eq("mixed with what was fed the marks stay", y.went(2, 3), 3);
        WasteBrook z = Check.of("good p 0;good q 0;work a 0 0;gives a p 1;work b;feeds b p 1;takes b p 2 2 0;gives b q 1;work c 2 9;takes c q 1 1 0;");
        z.begin();
        z.on(2);
        CHECK.eq("c's vat has what b gave first", z.comes(2, 1), 2);
        z.on(1);
        CHECK.eq("it has a's mark", z.went(2, 3), 3);
        WasteBrook v = Check.of("good p 0;good q 0;work a 0 0;gives a p 1;work b;feeds b p 1;takes b p 2 2 0;gives b q 1;"
            + "work d 0 1;takes d q 1 1 0;work c 2 9;takes c q 1 1 0;");
        v.begin();
        v.on(5);
        CHECK.eq("d used it, and c found b alone", v.went(3, 3), 2);
        CHECK.eq("d found both", v.went(2, 3), 3);
        WasteBrook s = Check.of("good p 1;work a;gives a p 1;work b;feeds b p 1;takes b p 1 1 0;");
        s.begin();
        s.on(5);
        CHECK.eq("a STREAM that is all lost has no marks", s.went(1, 3), 0);
        CHECK.eq("nor does it come from any", s.comes(1, 0), 0);
    }

    private static void comesIsAsGiven() {
        WasteBrook x = Check.run("good p 0;work a;gives a p 1;work b;gives b p 1;work c;takes c p 1 1 0;work d;takes d p 1 1 0;", 1);
        CHECK.eq("one of the mix has both", x.comes(2, 0), 3);
        CHECK.eq("so has the next", x.comes(3, 0), 3);
        CHECK.eq("found so, too", x.went(3, 3), 3);
        WasteBrook y = Check.run("good p 0;work a 0 0;gives a p 1;work b;takes b p 1 1 1;work c;takes c p 1 1 1;", 1);
        CHECK.eq("a full vat takes nothing", y.comes(1, 0), 0);
        CHECK.eq("c was full as well", y.comes(2, 0), 0);
        CHECK.eq("let out", y.parts(0, 5), 1);
    }

    private static void lacking() {
        WasteBrook x = Check.of("good p 0;good q 0;work a 0 5;takes a p 2 4 4;takes a q 1 3 0;feeds a p 1;work b;takes b p 1 1 0;");
        x.begin();
        x.on(3);
        CHECK.eq("enough of p", x.lacks(0, 0), 0);
        CHECK.eq("none of q", x.lacks(0, 1), 3);
        CHECK.eq("b gets what a's full vat leaves", x.lacks(1, 0), 0);
        Check.plan(x, "stops a 3 3;brings a q 3 4;");
        x.on(2);
        CHECK.eq("stopped in one, going in the other", x.lacks(0, 1), 3);
        CHECK.eq("went once", x.went(0, 0), 1);
        x.on(7);
        CHECK.eq("its hours are over", x.lacks(0, 1), 3);
        CHECK.eq("p", x.lacks(0, 0), 0);
        x.on(2);
        CHECK.eq("the next DAY, once more as q is used up", x.lacks(0, 1), 4);
        CHECK.eq("b, while a's vat had room", x.lacks(1, 0), 5);
        WasteBrook both = Check.run("good p 0;good q 0;work a;takes a p 1 1 0;takes a q 1 1 0;", 2);
        CHECK.eq("each that lacks", both.lacks(0, 0) * 10 + both.lacks(0, 1), 22);
    }

    private static void plans() {
        WasteBrook x = Check.of(CHAIN);
        CHECK.eq("plan()", Check.plan(x, "stops a 1 2;brings b w 9 1;brings b w 1 1 ;"), 3);
        CHECK.eq("count(6)", x.count(6), 3);
        CHECK.eq("fault()", x.fault(), 0);
        x.begin();
        x.on(1);
        CHECK.eq("vat behind 0", x.vat(1, 0), 1);
        x.on(1);
        CHECK.eq("filled to SIZE ahead of all, then used", x.vat(1, 0), 3);
        row("5 of 10 were beyond", parts(x, 0), 0, 10, 5, 6, 6, 0, 3, 0);
        CHECK.eq("brought has no marks, but was mixed", x.went(1, 3), 1);
        x.on(1);
        row("a stood", went(x, 0), 1, 2, 2, 0, 0, 0);
        CHECK.eq("the PLAN may change in a RUN", Check.plan(x, "stops b 0 199;stops a 4 4;stops a 4 5;"), 3);
        x.on(3);
        row("a stood in 4 and 5", went(x, 0), 2, 4, 4, 0, 3, 0);
        row("b stands", went(x, 1), 3, 3, 21, 1, 2, 0);
        CHECK.eq("an empty PLAN", x.plan(), 0);
        CHECK.eq("count(6)", x.count(6), 0);
        x.on(1);
        CHECK.eq("b goes", x.went(1, 5), 1);
        WasteBrook y = Check.of("good w 0;work b 0 0;takes b w 1 5 0;");
        Check.plan(y, "brings b w 2 0;");
        y.begin();
        y.on(1);
        CHECK.eq("brought ahead of all else", y.went(0, 0), 1);
        CHECK.eq("without marks", y.went(0, 3), 0);
    }

    private static void planFault(String text, int place, int kind) {
        WasteBrook x = Check.of(CHAIN);
        Check.plan(x, "stops a 7 8;stops b 9 9;");
        CHECK.eq("plan() of " + text, Check.plan(x, text), -1 - place);
        CHECK.eq("fault() of " + text, x.fault(), kind);
        CHECK.eq("it stays", x.count(6), 2);
        CHECK.eq("the tape is empty", x.count(7), 0);
    }

    private static void planFaults() {
        planFault("stops", 5, 1);
        planFault("stops a", 7, 1);
        planFault("stops a 1", 9, 1);
        planFault("stops a 1 2", 11, 1);
        planFault("stops a 1 2,", 11, 1);
        planFault("stops w 1 2;", 6, 3);
        planFault("stops c 1 2;", 6, 3);
        planFault("stops or 1 2;", 6, 1);
        planFault("stops a 2 1;", 10, 2);
        planFault("stops a 200 1;", 8, 2);
        planFault("stops a 1 200;", 10, 2);
        planFault("brings b w 0 0;", 11, 2);
        planFault("brings b w 100 0;", 11, 2);
        planFault("brings b w 99 200;", 14, 2);
        planFault("brings a w 1 0;", 9, 3);
        planFault("brings b b 1 0;", 9, 3);
        planFault("brings w w 1 0;", 7, 3);
        planFault("good z 1;", 0, 1);
        planFault("joined;", 0, 1);
        planFault("stops a 1 2;;", 12, 1);
        String twenty = "stops a 1 2;".repeat(20);
        planFault(twenty + "stops a 1 2;", 240, 4);
        planFault(twenty + "brings", 240, 4);
        planFault(twenty + "good", 240, 1);
        planFault(twenty + " ".repeat(61), 300, 1);
        planFault(twenty + " ".repeat(59) + "stops", 299, 4);
        planFault(twenty + " ".repeat(60) + "stops", 300, 1);
        WasteBrook x = Check.of(CHAIN);
        CHECK.eq("twenty LINES", Check.plan(x, twenty + " ".repeat(60)), 20);
        CHECK.eq("the largest", Check.plan(x, "stops a 199 199;stops b 0 199;brings b w 99 199;brings b w 1 0;"), 4);
    }

    /** PARTS: what was had, fed, brought and given is somewhere. */
    private static void partsAreWhole() {
        WasteBrook x = Check.of("good p 1;good q 2;work a;takes a p 2 7 5;gives a q 5;work b 3 9;takes b q 3 9 4;takes b p 1 4 2;gives b p 6;"
            + "feeds b q 2;feeds a p 1;joined;");
        Check.plan(x, "brings a p 9 3;brings b q 99 5;stops a 6 8;");
        x.begin();
        for (int h = 0; h < 30; h++) {
            for (int g = 0; g < 2; g++) {
                int[] all = parts(x, g);
                int came = (g == 0 ? 7 : 4) + all[0] + all[1] + all[2];
                CHECK.eq("PARTS of " + g + " behind " + h, came, all[3] + all[4] + all[5] + all[6] + all[7]);
            }
            x.on(1);
        }
    }
}
