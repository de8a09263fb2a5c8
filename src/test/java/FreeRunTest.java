/** Promises 17, 18 and 21: RUNS without a PLAN. */
public final class FreeRunTest {
    private static final Check CHECK = new Check();
    private static final String CHAIN = "good w 1;work a;gives a w 5;makes a 2;work b;takes b w 3 6 0;makes b 7;";

    private FreeRunTest() {
    }

    public static void main(String[] args) {
        goes();
        order();
        again();
        theRunStays();
        CHECK.close("FreeRunTest");
    }

    private static void goes() {
        WasteBrook x = Check.of("good w 0;work a 2 3;gives a w 1;work b;takes b w 2 9 0;work c;");
        CHECK.eq("a", x.goes(0, 0), 12);
        CHECK.eq("b, when two have come", x.goes(1, 0), 8);
        CHECK.eq("c, always", x.goes(2, 15), 4095);
        CHECK.eq("a on the last DAY", x.goes(0, 15), 12);
        CHECK.eq("DAY 16", x.goes(0, 16), -1);
        CHECK.eq("DAY -1", x.goes(0, -1), -1);
        CHECK.eq("WORK 3", x.goes(3, 0), -1);
        CHECK.eq("WORK -1", x.goes(-1, 0), -1);
        WasteBrook y = Check.of("good w 0;work a 7 7;gives a w 1;work b;takes b w 3 9 0;");
        int[] days = {0, 0, 128, 0, 0, 128, 0, 0, 128, 0, 0, 128, 0, 0, 128, 0};
        for (int day = 0; day < 16; day++) {
            CHECK.eq("b on DAY " + day, y.goes(1, day), days[day]);
        }
        Check.plan(x, "stops a 0 199;");
        CHECK.eq("no PLAN counts", x.goes(0, 0), 12);
    }

    private static void order() {
        WasteBrook x = Check.of("good w 0;work a 5 6;gives a w 1;work b;takes b w 9 9 0;work c 2 2;work d 2 2;work e;takes e w 1 1 1;");
        int[] order = {4, 2, 3, 0, 1};
        for (int k = 0; k < 5; k++) {
            CHECK.eq("order(" + k + ")", x.order(k), k < 5 ? order[k] : -1);
        }
        CHECK.eq("order(5)", x.order(5), -1);
        CHECK.eq("order(-1)", x.order(-1), -1);
        CHECK.eq("order(largest)", x.order(Integer.MAX_VALUE), -1);
        WasteBrook never = Check.of("good w 0;work a;takes a w 1 1 0;work b;");
        CHECK.eq("the first that goes", never.order(0), 1);
        CHECK.eq("a never does", never.order(1), -1);
        // one comes in each DAY, in its hour 7; b's ninth is had in HOUR 8 * 12 + 7
        WasteBrook late = Check.of("good w 0;work a 7 7;gives a w 1;work b;takes b w 9 99 0;");
        CHECK.eq("late", late.order(1), 1);
        CHECK.eq("in that DAY", late.goes(1, 8), 128);
        WasteBrook tooLate = Check.of("good w 0;work a 7 7;gives a w 1;work c;takes c w 1 9 0;work b;takes b w 9 99 0;");
        CHECK.eq("nothing comes to b", tooLate.order(2), -1);
        // c's vat, which is never used, takes the first eight; b's ninth is the 17th of all
        String last = "good w 0;good v 0;work a 7 7;gives a w 1;work c;takes c w 1 8 0;takes c v 1 1 0;work b;takes b w 9 9 0;";
        CHECK.eq("in HOUR 199", Check.of(last).order(1), 2);
        CHECK.eq("in HOUR 200 it is too late", Check.of(last.replace("7 7", "8 8")).order(1), -1);
        Check.plan(x, "stops e 0 199;");
        CHECK.eq("no PLAN counts", x.order(0), 4);
        CHECK.eq("an empty BROOK", new WasteBrook().order(0), -1);
    }

    private static void again(String text, int m, int k) {
        WasteBrook x = Check.of(text);
        CHECK.eq("m of " + text, x.again(0), m);
        CHECK.eq("k of " + text, x.again(1), k);
        CHECK.eq("what 2", x.again(2), -1);
        CHECK.eq("what -1", x.again(-1), -1);
    }

    private static void again() {
        again("", 0, 12);
        again(CHAIN, 2, 12);
        again("good w 0;work a;", 0, 12);
        // three DAYS till the vat is as it was, from the first HOUR on
        again("good w 0;work a 0 0;gives a w 1;work b;takes b w 3 9 0;", 0, 36);
        // 9 by 7 a DAY, 2 a HOUR: the vat has room for all that comes
        again("good w 0;work a 7 7;gives a w 1;work b;takes b w 3 9 0;", 0, 36);
        // it fills by one a DAY up to 99: not full ahead of HOUR 200
        again("good w 0;work a 0 0;gives a w 1;work b 11 11;takes b w 9 99 8;work c;takes c w 1 99 0;", 0, 108);
        again("good w 0;work a 0 0;gives a w 1;work b;takes b w 1 5 1;takes b v 1 1 0;".replace("good w 0;", "good w 0;good v 0;"), 36, 12);
        // 1 a HOUR, 5 taken: sixty HOURS till the hour of the DAY is the same, too
        again("good w 0;work a;takes a w 5 9 0;feeds a w 1;", 0, 60);
        // what is on its way to the top counts, and grows for ever
        again("good w 0;work a 0 0;gives a w 1;joined;", -1, -1);
        // lost on its way to the top
        again("good w 1;work a 0 0;gives a w 1;joined;", 0, 12);
        // the last m that can be: 187 with 12 behind it
        again("good w 0;work a 0 0;gives a w 1;work b 0 0;takes b w 9 16 1;takes b v 1 1 0;".replace("good w 0;", "good w 0;good v 0;"), 168, 12);
        again("good w 0;work a 0 0;gives a w 1;work b 0 0;takes b w 9 17 1;takes b v 1 1 0;".replace("good w 0;", "good w 0;good v 0;"), 180, 12);
        again("good w 0;work a 0 0;gives a w 1;work b 0 0;takes b w 9 18 1;takes b v 1 1 0;".replace("good w 0;", "good w 0;good v 0;"), -1, -1);
        again("good w 0;work a 7 7;gives a w 1;work b 0 0;takes b w 9 17 1;takes b v 1 1 0;".replace("good w 0;", "good w 0;good v 0;"), 187, 12);
        WasteBrook x = Check.of(CHAIN);
        Check.plan(x, "brings b w 9 0;stops a 5 99;");
        CHECK.eq("no PLAN counts", x.again(0), 2);
    }

    private static void theRunStays() {
        WasteBrook x = Check.run(CHAIN, 3);
        x.goes(1, 3);
        x.order(1);
        x.again(0);
        x.by(1, 50);
        x.worth(20);
        x.kindle(3, 9);
        x.wider(3, 50);
        x.exchanged(40);
        x.rest();
        x.fed(2);
        CHECK.eq("hour()", x.hour(), 3);
        CHECK.eq("vat", x.vat(1, 0), 3);
        CHECK.eq("made", x.made(), 27);
        CHECK.eq("SIZE", x.at(1, 0, 1), 6);
        CHECK.eq("fed", x.count(4), 0);
        x.on(1);
        CHECK.eq("it goes on", x.parts(0, 5), 1);
    }
}
