/** Promises 17, 18 and 21, RUNS without a PLAN: each sentence that names a boundary. */
public final class EdgeFreeRunTest {
    private static final Check CHECK = new Check();
    private static final int LEAST = Integer.MIN_VALUE;
    private static final int LARGEST = Integer.MAX_VALUE;

    private EdgeFreeRunTest() {
    }

    public static void main(String[] args) {
        promise17HoursAsBits();
        promise17ADayFrom0To15();
        promise17WithoutAPlan();
        promise17NoneNoSuchOnes();
        promise18TheKthWork();
        promise18OfLikeOnesTheFirst();
        promise18ThoseThatNeverDoLeftOut();
        promise18ToHour199();
        promise18NoneNoneSuch();
        promise21TheFirstHour();
        promise21ToHour199();
        promise21KInDays();
        promise21WhatCountsForAState();
        promise21NoneNoneDoes();
        promise21NoneAnotherWhat();
        promise21WithoutAPlan();
        sixGoodsAndEightWorks();
        CHECK.close("EdgeFreeRunTest");
    }

    /** Promise 17: "Hours (bits) of a DAY": none, hour 0, hour 11, all. */
    private static void promise17HoursAsBits() {
        WasteBrook x = Check.of("good w 0;work a 0 0;work b 11 11;work c;work d;takes d w 1 1 0;work e 1 10;");
        int[] bits = {1, 2048, 4095, 0, 2046};
        for (int w = 0; w < 5; w++) {
            CHECK.eq("goes(" + w + ", 0)", x.goes(w, 0), bits[w]);
            CHECK.eq("goes(" + w + ", 15)", x.goes(w, 15), bits[w]);
        }
    }

    /** Promise 17: "a DAY (0 to 15)": DAY 15 is HOURS 180 to 191; what is had lasts to the HOUR ahead of it, to its first and its last, and beyond. */
    private static void promise17ADayFrom0To15() {
        CHECK.eq("DAY 0", Check.of("good w 0;work a;takes a w 1 1 1;").goes(0, 0), 1);
        CHECK.eq("DAY 1", Check.of("good w 0;work a;takes a w 1 1 1;").goes(0, 1), 0);
        CHECK.eq("12 HOURS: DAY 0", Check.of("good w 0;work a;takes a w 1 12 12;").goes(0, 0), 4095);
        CHECK.eq("DAY 1", Check.of("good w 0;work a;takes a w 1 12 12;").goes(0, 1), 0);
        CHECK.eq("13 HOURS: DAY 1", Check.of("good w 0;work a;takes a w 1 13 13;").goes(0, 1), 1);
        // c's vat takes the first so many by one a HOUR; then they come to b
        int[][] rows = {{179, 4095}, {180, 4095}, {181, 4094}, {191, 2048}, {192, 0}};
        for (int[] row : rows) {
            int first = row[0] / 2;
            WasteBrook x = Check.of("good w 0;good v 0;work a;gives a w 1;work c;takes c v 1 1 0;takes c w 1 " + first + " 0;work d;takes d v 1 1 0;takes d w 1 "
                + (row[0] - first) + " 0;work b;takes b w 1 1 0;");
            CHECK.eq("b begins in HOUR " + row[0] + ": DAY 15", x.goes(3, 15), row[1]);
            CHECK.eq("DAY 14", x.goes(3, 14), row[0] == 179 ? 2048 : 0);
        }
    }

    /** Promise 17: "of a RUN without a PLAN", whatever the RUN now has done. */
    private static void promise17WithoutAPlan() {
        WasteBrook x = Check.of("good w 0;work a;takes a w 1 9 2;");
        CHECK.eq("without a RUN", x.goes(0, 0), 3);
        Check.plan(x, "stops a 0 199;brings a w 9 0;");
        x.begin();
        x.on(5);
        CHECK.eq("with a PLAN and a RUN", x.goes(0, 0), 3);
        CHECK.eq("the RUN stays", x.hour() * 10 + x.vat(0, 0), 59);
        Twin.same(CHECK, "goes(1, 15)", t -> t.goes(1, 15), 2047);
        Twin.same(CHECK, "goes(0, 0)", t -> t.goes(0, 0), 1023);
    }

    /** Promise 17: "NONE: no such ones": WORKS and DAYS ahead of the first and behind the last. */
    private static void promise17NoneNoSuchOnes() {
        for (int w : new int[] {-1, 2, 8, LEAST, LARGEST}) {
            Twin.same(CHECK, "goes(" + w + ", 0)", t -> t.goes(w, 0), -1);
        }
        for (int day : new int[] {-1, 16, 17, LEAST, LARGEST}) {
            Twin.same(CHECK, "goes(0, " + day + ")", t -> t.goes(0, day), -1);
        }
        CHECK.eq("without WORKS", new WasteBrook().goes(0, 0), -1);
        WasteBrook eight = Check.of("work a;work b;work c;work d;work e;work f;work g;work h 5 5;");
        CHECK.eq("WORK 7", eight.goes(7, 15), 32);
        CHECK.eq("WORK 8", eight.goes(8, 15), -1);
    }

    /** Promise 18: "The k-th WORK in the order in which they go first": of eight the first and the last. */
    private static void promise18TheKthWork() {
        StringBuilder b = new StringBuilder();
        for (int w = 0; w < 8; w++) {
            b.append("work ").append((char) ('a' + w)).append(' ').append(7 - w).append(" 11;");
        }
        WasteBrook x = Check.of(b.toString());
        for (int k = 0; k < 8; k++) {
            CHECK.eq("order(" + k + ")", x.order(k), 7 - k);
        }
        CHECK.eq("order(8)", x.order(8), -1);
        CHECK.eq("order(-1)", x.order(-1), -1);
    }

    /** Promise 18: "(of like ones the first": those of one HOUR; an HOUR apart they are not alike. */
    private static void promise18OfLikeOnesTheFirst() {
        WasteBrook x = Check.of("work a 3 3;work b 3 3;work c 2 2;work d 3 3;work e 2 2;");
        int[] order = {2, 4, 0, 1, 3};
        for (int k = 0; k < 5; k++) {
            CHECK.eq("order(" + k + ")", x.order(k), order[k]);
        }
    }

    /** Promise 18: "those that never do left out": none does, one does, all do. */
    private static void promise18ThoseThatNeverDoLeftOut() {
        String never = "good w 0;work a;takes a w 1 1 0;work b;takes b w 1 1 0;";
        CHECK.eq("none does", Check.of(never).order(0), -1);
        WasteBrook one = Check.of(never + "work c;");
        CHECK.eq("the one that does", one.order(0), 2);
        CHECK.eq("no other", one.order(1), -1);
        WasteBrook all = Check.of(never.replace("1 1 0", "1 1 1"));
        CHECK.eq("the last that does", all.order(1), 1);
        CHECK.eq("no other", all.order(2), -1);
    }

    /** Promise 18: in a RUN, the last HOUR of which is 199: who goes first in HOUR 198, 199, and would in HOUR 200. */
    private static void promise18ToHour199() {
        for (int hour = 197; hour <= 201; hour++) {
            // what a gives fills three vats, which nobody uses, ahead of b's
            WasteBrook x = Check.of("good w 0;good v 0;work a;gives a w 1;work c;takes c v 1 1 0;takes c w 1 70 0;work d;takes d v 1 1 0;takes d w 1 70 0;"
                + "work e;takes e v 1 1 0;takes e w 1 " + (hour - 140) + " 0;work b;takes b w 1 1 0;");
            CHECK.eq("in HOUR " + hour, x.order(1), hour <= 199 ? 4 : -1);
        }
    }

    /** Promise 18: "NONE: none such". */
    private static void promise18NoneNoneSuch() {
        for (int k : new int[] {-1, 2, 8, LEAST, LARGEST}) {
            Twin.same(CHECK, "order(" + k + ")", t -> t.order(k), -1);
        }
        Twin.same(CHECK, "order(0)", t -> t.order(0), 0);
        Twin.same(CHECK, "order(1)", t -> t.order(1), 1);
        CHECK.eq("without WORKS", new WasteBrook().order(0), -1);
    }

    private static void again(String text, int m, int k) {
        WasteBrook x = Check.of(text);
        CHECK.eq("m of " + text, x.again(0), m);
        CHECK.eq("k of " + text, x.again(1), k);
    }

    /** Promise 21: "AGAIN: the first HOUR m the STATE of which comes again": HOUR 0, 1 and later ones. */
    private static void promise21TheFirstHour() {
        again("", 0, 12);
        again("work a;", 0, 12);
        for (int has = 0; has <= 9; has++) {
            // what is had is used by 1 a HOUR: empty behind HOUR has - 1
            again("good w 0;work a;takes a w 1 9 " + has + ";", Math.max(0, has - 1), 12);
        }
        // by one a HOUR from none to SIZE, which it has behind HOUR SIZE - 1
        for (int size : new int[] {1, 2, 50, 98, 99}) {
            again("good w 0;good v 0;work a;takes a v 1 1 0;takes a w 1 " + size + " 0;feeds a w 1;", size - 1, 12);
        }
    }

    /** AGAIN "(... to HOUR 199)": the first HOUR m is 186, 187 and would be 188, with 12 HOURS behind it. */
    private static void promise21ToHour199() {
        for (int full = 186; full <= 188; full++) {
            int first = 99;
            String text = "good w 0;good v 0;work a;takes a v 1 1 0;takes a w 1 " + first + " 0;feeds a w 1;work b;takes b v 1 1 0;takes b w 1 " + (full + 1 - first) + " 0;";
            again(text, full <= 187 ? full : -1, full <= 187 ? 12 : -1);
        }
        // 180 HOURS behind HOUR 19; with one more day there would be none
        again("good w 0;good v 0;work a;takes a v 1 1 0;takes a w 1 20 0;feeds a w 1;", 19, 12);
    }

    /** AGAIN: "at the least k HOURS later": the hour of the DAY is of the STATE, so 12, 24, .. 192. */
    private static void promise21KInDays() {
        again("good w 0;work a;takes a w 2 9 0;feeds a w 1;", 0, 12);
        again("good w 0;work a;takes a w 5 9 0;feeds a w 1;", 0, 60);
        again("good w 0;work a;takes a w 7 9 0;feeds a w 1;", 0, 84);
        again("good w 0;work a;takes a w 8 9 0;feeds a w 1;", 0, 24);
        again("good w 0;work a;takes a w 9 9 0;feeds a w 1;", 0, 36);
        // one a DAY, 9 used at a time: nine DAYS
        again("good w 0;work a 0 0;gives a w 1;work b;takes b w 9 9 0;", 0, 108);
        // 5 and 3 a HOUR and a DAY: fifteen DAYS are 180 HOURS
        again("good w 0;good v 0;work a;takes a w 5 9 0;feeds a w 1;work c 0 0;gives c v 1;work b;takes b v 3 9 0;", 0, 180);
        // 16 DAYS are 192: two WORKS, of which the one gives what the other takes by 8 and 2
        again("good w 0;good v 0;good u 0;work a 0 0;gives a w 1;work b;takes b w 8 8 0;gives b v 1;work c;takes c v 2 2 0;", 0, 192);
        // 17 would be 204; 7 by 5 DAYS are 420
        again("good w 0;good v 0;work a 0 0;gives a w 1;gives a v 1;work b;takes b w 7 9 0;work c;takes c v 5 9 0;", -1, -1);
    }

    /** "STATE behind an HOUR: vats, what is on its way to the top, and the hour of the DAY (marks do not count)". */
    private static void promise21WhatCountsForAState() {
        // on its way to the top: 1 more in each DAY, the vats as ever
        again("good w 0;work a 0 0;gives a w 1;joined;", -1, -1);
        again("good w 1;work a 0 0;gives a w 1;joined;", 0, 12);
        // given 2 in hour 0, of which 1 is lost a HOUR: on its way behind HOUR 0 is 2, 1, none
        again("good w 1;work a 0 0;gives a w 9;joined;", 0, 12);
        // b's vat has a's marks from DAY 1 on, and is full as it was: they do not count
        again("good w 0;work a 1 1;gives a w 1;work b 0 0;takes b w 1 9 9;", 0, 12);
        again("good w 0;work a 0 0;gives a w 1;work b 0 0;takes b w 1 9 9;", 0, 12);
        // how often they went does not count, either
        again("work a;makes a 9;", 0, 12);
    }

    /** Promise 21: "NONE: none does". */
    private static void promise21NoneNoneDoes() {
        WasteBrook x = Check.of("good w 0;work a;feeds a w 1;joined;");
        CHECK.eq("m", x.again(0), -1);
        CHECK.eq("k", x.again(1), -1);
        CHECK.eq("what 2", x.again(2), -1);
        again("good w 1;work a;feeds a w 1;joined;", 0, 12);
        again("good w 0;work a;feeds a w 1;", 0, 12);
    }

    /** Promise 21: "or another what": -1 and 2. */
    private static void promise21NoneAnotherWhat() {
        for (int what : new int[] {-1, 2, 3, LEAST, LARGEST}) {
            Twin.same(CHECK, "again(" + what + ")", t -> t.again(what), -1);
        }
        WasteBrook x = Twin.full();
        int m = x.again(0);
        int k = x.again(1);
        Twin.same(CHECK, "again(0)", t -> t.again(0), m);
        Twin.same(CHECK, "again(1)", t -> t.again(1), k);
        CHECK.eq("in DAYS", k % 12, 0);
    }

    /** AGAIN "(in a RUN without a PLAN": the PLAN and the RUN now count nothing. */
    private static void promise21WithoutAPlan() {
        WasteBrook x = Check.of("good w 0;work a;takes a w 1 9 5;");
        Check.plan(x, "brings a w 9 100;stops a 0 50;");
        x.begin();
        x.on(30);
        CHECK.eq("m", x.again(0), 4);
        CHECK.eq("k", x.again(1), 12);
        CHECK.eq("the RUN stays", x.hour() * 10 + x.vat(0, 0), 305);
    }

    /** Promises 17, 18 and 21 of the last GOOD and WORK there can be. */
    private static void sixGoodsAndEightWorks() {
        String all = "good a 0;good b 0;good c 0;good d 0;good e 0;good f 0;work p;work q;work r;work s;work t;work u;work v;work w;";
        again(all + "takes w f 1 99 0;takes w e 1 1 0;feeds w f 1;", 98, 12);
        again(all + "takes w f 1 99 20;", 19, 12);
        again(all + "feeds w f 1;joined;", -1, -1);
        again(all.replace("f 0", "f 1") + "feeds w f 1;joined;", 0, 12);
        WasteBrook x = Check.of(all + "takes w f 1 99 20;makes w 1;");
        CHECK.eq("HOURS 12 to 19", x.goes(7, 1), 255);
        CHECK.eq("none behind them", x.goes(7, 2), 0);
        CHECK.eq("the last to go first", x.order(7), 7);
        CHECK.eq("20 HOURS in 200", x.by(128, 200), 20);
        CHECK.eq("19 in 19", x.by(128, 19), 19);
    }
}
