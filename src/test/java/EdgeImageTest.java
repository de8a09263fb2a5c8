/** Promises 43 and 44, images: each sentence that names a boundary. */
public final class EdgeImageTest {
    private static final Check CHECK = new Check();
    private static final int LEAST = Integer.MIN_VALUE;
    private static final int LARGEST = Integer.MAX_VALUE;

    private EdgeImageTest() {
    }

    public static void main(String[] args) {
        promise43Places0And1();
        promise43FalseNoSuchOne();
        promise43AlsoOfNothing();
        promise43InPlaceOfWhatWasKept();
        promise43ChangesNothing();
        promise44AsKept();
        promise44TheTapeStays();
        promise44WhatOtherCallsToldLastStays();
        promise44FalseNoSuchOne();
        promise44FalseNothingIsKeptThere();
        promise44AsOftenAsOneLikes();
        promise44MarksAndWhoGave();
        promise43BehindAFault();
        sixGoodsAndEightWorks();
        CHECK.close("EdgeImageTest");
    }

    /** Promise 43: "place k (0, 1)": each on its own. */
    private static void promise43Places0And1() {
        WasteBrook x = Check.of("work a;");
        CHECK.yes("image(0)", x.image(0));
        CHECK.no("nothing in 1 by it", x.restore(1));
        Check.brook(x, "work a;work b;");
        CHECK.yes("image(1)", x.image(1));
        Check.brook(x, "work a;work b;work c;");
        CHECK.yes("restore(0)", x.restore(0));
        CHECK.eq("one WORK", x.count(1), 1);
        CHECK.yes("restore(1)", x.restore(1));
        CHECK.eq("two WORKS", x.count(1), 2);
    }

    /** Promise 43: "false: no such one": -1 and 2; nothing is kept by it. */
    private static void promise43FalseNoSuchOne() {
        for (int k : new int[] {-1, 2, 3, LEAST, LARGEST}) {
            WasteBrook x = Check.of("work a;");
            CHECK.no("image(" + k + ")", x.image(k));
            CHECK.no("nothing is kept in 0", x.restore(0));
            CHECK.no("nor in 1", x.restore(1));
            CHECK.no("nor there", x.restore(k));
            Twin.same(CHECK, "image(" + k + ")", t -> t.image(k) ? 1 : 0, 0);
        }
    }

    /** Promise 43: an empty BROOK, no PLAN, no SENTENCE and no RUN can be kept, too. */
    private static void promise43AlsoOfNothing() {
        WasteBrook x = new WasteBrook();
        CHECK.yes("image(1) of a new object", x.image(1));
        Check.brook(x, Twin.BROOK);
        Check.plan(x, Twin.PLAN);
        Check.sentence(x, "place=0");
        x.begin();
        CHECK.yes("restore(1)", x.restore(1));
        for (int what = 0; what < 8; what++) {
            CHECK.eq("count(" + what + ")", x.count(what), 0);
        }
        CHECK.eq("no RUN", x.hour(), -1);
        CHECK.no("no WORKS", x.begin());
        CHECK.eq("no SENTENCE", x.said(-1), -1);
        CHECK.eq("a BROOK as any", Check.brook(x, "work a;"), 1);
    }

    /** Promise 43: what is kept takes the place of what was kept there. */
    private static void promise43InPlaceOfWhatWasKept() {
        WasteBrook x = Check.run("good w 0;work a;takes a w 1 9 9;makes a 1;", 2);
        x.image(0);
        x.on(1);
        x.image(0);
        x.on(5);
        x.restore(0);
        CHECK.eq("the later one", x.hour() * 10 + x.vat(0, 0), 36);
        x.begin();
        x.image(0);
        x.on(7);
        x.restore(0);
        CHECK.eq("of no HOURS", x.hour() * 10 + x.vat(0, 0), 9);
    }

    /** Promise 43: what is now goes on as it was. */
    private static void promise43ChangesNothing() {
        Twin.same(CHECK, "image(0) of what was restored from there", t -> {
            t.restore(0);
            long answer = t.image(0) ? 1 : 0;
            t.on(3);
            return answer;
        }, 1);
        WasteBrook x = Check.run("good w 0;work a;takes a w 1 9 9;makes a 1;", 2);
        x.image(1);
        CHECK.eq("hour()", x.hour(), 2);
        x.on(1);
        CHECK.eq("vat()", x.vat(0, 0), 6);
        x.image(0);
        CHECK.eq("made()", x.made(), 3);
    }

    /** Promise 44: "They are as kept in place k": BROOK, PLAN, SENTENCE and RUN at their ends: HOURS 0, 199 and 200. */
    private static void promise44AsKept() {
        for (int hours : new int[] {0, 1, 199, 200}) {
            WasteBrook x = Check.of(Twin.BROOK);
            Check.plan(x, Twin.PLAN);
            Check.sentence(x, "place=1 or went>150");
            x.begin();
            x.on(hours);
            x.image(1);
            int[] was = {x.hour(), x.made(), x.vat(1, 0), x.parts(0, 4), x.went(1, 4), x.comes(1, 0), x.lacks(1, 0), x.said(-1), x.count(6), x.count(0)};
            x.plan();
            x.begin();
            x.on(50);
            Check.sentence(x, "place>5");
            Check.brook(x, "work z;");
            x.begin();
            CHECK.yes("restore(1)", x.restore(1));
            int[] is = {x.hour(), x.made(), x.vat(1, 0), x.parts(0, 4), x.went(1, 4), x.comes(1, 0), x.lacks(1, 0), x.said(-1), x.count(6), x.count(0)};
            for (int i = 0; i < was.length; i++) {
                CHECK.eq("what is kept of HOUR " + hours + ": " + i, is[i], was[i]);
            }
            CHECK.eq("it goes on", x.on(1), hours < 200 ? 1 : 0);
        }
    }

    /** Promise 44: "(the tape ... stays)": an empty one, a full one. */
    private static void promise44TheTapeStays() {
        WasteBrook x = Check.of("work a;");
        Check.put(x, "joined;");
        x.image(0);
        x.brook();
        x.restore(0);
        CHECK.eq("empty, though it was not, when it was kept", x.count(7), 0);
        Check.put(x, "work a;work b;" + " ".repeat(926));
        x.restore(0);
        CHECK.eq("940", x.count(7), 940);
        x.end(14);
        CHECK.eq("what was on it", x.brook(), 2);
    }

    /** Promise 44: "(... what other calls told last, stays)": FAULT, WORTH, KINDLED, the text. */
    private static void promise44WhatOtherCallsToldLastStays() {
        WasteBrook x = Check.of("good w 0;work a;takes a w 1 1 1;makes a 3;");
        x.image(0);
        x.worth(1);
        x.kindle(1, 1);
        x.begin();
        x.on(1);
        x.write();
        Check.plan(x, "stops a 0 200;");
        x.restore(0);
        CHECK.eq("fault()", x.fault(), 2);
        CHECK.eq("worthOf()", x.worthOf(0, 0), 3);
        CHECK.eq("kindled()", x.kindled(), 1);
        CHECK.eq("byteAt(2): went 1", x.byteAt(2), '1');
        CHECK.eq("but no RUN", x.hour(), -1);
        WasteBrook y = Check.of("work a;work b;makes b 2;");
        y.worth(1);
        y.image(0);
        Check.brook(y, "work a;makes a 9;");
        y.worth(1);
        y.restore(0);
        CHECK.eq("of one WORK, though there are two", y.worthOf(0, 0), 9);
        CHECK.throwsNoSuch("of the second none", () -> y.worthOf(1, 0));
    }

    /** Promise 44: "false: no such one": -1 and 2. */
    private static void promise44FalseNoSuchOne() {
        for (int k : new int[] {-1, 2, 3, LEAST, LARGEST}) {
            Twin.same(CHECK, "restore(" + k + ")", t -> t.restore(k) ? 1 : 0, 0);
        }
    }

    /** Promise 44: "or nothing is kept there". */
    private static void promise44FalseNothingIsKeptThere() {
        Twin.same(CHECK, "restore(1)", t -> t.restore(1) ? 1 : 0, 0);
        WasteBrook x = new WasteBrook();
        CHECK.no("restore(0) of a new object", x.restore(0));
        CHECK.no("restore(1) of a new object", x.restore(1));
        x.image(0);
        CHECK.yes("restore(0)", x.restore(0));
        CHECK.no("restore(1)", x.restore(1));
        x.image(1);
        CHECK.yes("restore(1) then", x.restore(1));
    }

    /** Promise 44: it stays kept. */
    private static void promise44AsOftenAsOneLikes() {
        WasteBrook x = Check.run("good w 0;work a;takes a w 1 9 9;makes a 1;", 2);
        x.image(1);
        for (int i = 0; i < 3; i++) {
            x.on(4);
            CHECK.eq("on", x.vat(0, 0), 3);
            CHECK.yes("restore(1)", x.restore(1));
            CHECK.eq("back", x.vat(0, 0), 7);
            Check.brook(x, "work z;");
            CHECK.yes("restore(1) of another BROOK", x.restore(1));
        }
    }

    /** Promise 44: "as kept": FOUND by a WORK and COMES to a vat are two things, in a vat and on the way. */
    private static void promise44MarksAndWhoGave() {
        // b gives of what a gave; c's vat has of it, and it is on its way to the top, where d's vat takes it
        WasteBrook x = Check.run("good w 0;good v 0;work d 2 2;takes d v 1 1 1;work a 0 0;gives a w 1;work b;takes b w 1 1 0;gives b v 2;work c 2 2;takes c v 1 1 0;joined;", 1);
        CHECK.eq("in c's vat and on its way", x.vat(3, 1) * 10 + x.parts(1, 7), 11);
        x.image(0);
        for (int time = 0; time < 2; time++) {
            x.begin();
            x.restore(0);
            CHECK.eq("it came to c from b", x.comes(3, 1), 4);
            CHECK.eq("nothing came to d", x.comes(0, 1), 0);
            x.on(2);
            CHECK.eq("c found a and b", x.went(3, 3), 6);
            CHECK.eq("d went by what it had", x.went(0, 0) * 10 + x.went(0, 3), 10);
            x.on(12);
            CHECK.eq("d's vat took what b gave", x.comes(0, 1), 4);
            CHECK.eq("and d found a and b", x.went(0, 3), 6);
            CHECK.eq("c still has it from b alone", x.comes(3, 1), 4);
        }
    }

    /** Promise 43: what is kept is the PLAN and the SENTENCE there is, not one that was read with a FAULT. */
    private static void promise43BehindAFault() {
        WasteBrook x = Check.of("good w 0;work a;work b;takes b w 1 9 0;");
        Check.plan(x, "stops a 0 1;brings b w 3 2;");
        Check.sentence(x, "place=1 and wants w");
        CHECK.eq("a PLAN with a FAULT", Check.plan(x, "stops b 0 5;stops b"), -20);
        CHECK.eq("a SENTENCE with a FAULT", Check.sentence(x, "place=0 or"), -11);
        x.image(1);
        Check.plan(x, "");
        Check.sentence(x, "place=0");
        x.restore(1);
        CHECK.eq("LINES of the PLAN", x.count(6), 2);
        x.begin();
        CHECK.eq("of one", x.said(-1), 1);
        CHECK.eq("of b", x.said(0), 1);
        x.on(3);
        CHECK.eq("a stood in two", x.went(0, 1), 2);
        CHECK.eq("b has 2 of 3", x.vat(1, 0), 2);
    }

    /** Promise 44: "as kept", of the last GOOD and WORK there can be: what is in its vat and on its way, with all marks. */
    private static void sixGoodsAndEightWorks() {
        String all = "good a 0;good b 0;good c 0;good d 0;good e 0;good f 0;work p;work q;work r;work s;work t;work u;work v;takes v e 1 9 HAS;gives v f 4;"
            + "work w;takes w f 9 99 0;gives w f 5;makes w 99;joined;";
        // v gives 4 in each HOUR; w goes in HOUR 2
        WasteBrook x = Check.run(all.replace("HAS", "9"), 3);
        Check.plan(x, "stops p 0 0;".repeat(19) + "brings w f 90 3;");
        Check.sentence(x, "finds w and wants f");
        x.image(0);
        x.begin();
        Check.plan(x, "");
        Check.sentence(x, "place=0");
        x.image(1);
        for (int time = 0; time < 2; time++) {
            x.restore(1);
            lastWork(x, new int[] {0, 0, 0, 0, 0, 0, 0, -1, 0});
            x.restore(0);
            lastWork(x, new int[] {3, 64, 2, 1, 2, 99, 64, 2, 5});
            CHECK.eq("nobody finds w", x.said(-1), 0);
            x.on(1);
            // 90 are brought, the 5 that w gave and 1 of v's 4 come: 99, of which 9 are used
            lastWork(x, new int[] {90, 192, 2, 2, 2, 198, 192, 3, 8});
            CHECK.eq("w finds itself", x.said(0), 7);
        }
        // v gives 4 in HOUR 0 alone; they are in w's vat till HOUR 4, when 5 are brought
        WasteBrook once = Check.run(all.replace("HAS", "1"), 3);
        Check.plan(once, "brings w f 5 4;");
        once.image(1);
        once.begin();
        once.restore(1);
        once.on(2);
        lastWork(once, new int[] {0, 64, 4, 1, 4, 99, 64, 4, 5});
    }

    private static void lastWork(WasteBrook x, int[] due) {
        int[] got = {x.vat(7, 5), x.comes(7, 5), x.lacks(7, 5), x.went(7, 0), x.went(7, 1), x.went(7, 2), x.went(7, 3), x.went(7, 4), x.parts(5, 7)};
        for (int i = 0; i < due.length; i++) {
            CHECK.eq("of WORK 7 the answer " + i + " behind " + x.hour(), got[i], due[i]);
        }
    }
}
