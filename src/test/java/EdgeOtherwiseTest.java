/** Promises 32 to 38, KINDLED and what is made if it were told otherwise: each sentence that names a boundary. */
public final class EdgeOtherwiseTest {
    private static final Check CHECK = new Check();
    private static final int LEAST = Integer.MIN_VALUE;
    private static final int LARGEST = Integer.MAX_VALUE;
    private static final int[] NO_HOURS = {-1, 0, 201, LEAST, LARGEST};

    private EdgeOtherwiseTest() {
    }

    public static void main(String[] args) {
        promise32TheLeastThatIsBrought();
        promise32NOfAllThatItTakesFromEmptyVats();
        promise32GoesOnceAtLeastInSoManyHours();
        promise32HoursFrom1To48();
        promise32NoneDoes();
        promise32NoSuchOnes();
        promise33OfLikeOnesTheLeastSet();
        promise33OthersThanTheToldSet();
        promise33WhoTakesNothing();
        promise33NoneAheadOfAny();
        promise33TheLatestThatWas0OrAbove();
        promise34TheVatByWhichMostIsMade();
        promise34LargerThanCanBeTold();
        promise34OfLikeOnes();
        promise34From1To99();
        promise34Hours();
        promise34NoVats();
        promise35TheWork();
        promise35ElevenAtMost();
        promise35From1To11();
        promise35Hours();
        promise35NoWorks();
        promise36EachInTheOthersPlace();
        promise36OfLikeOnesTheFirst();
        promise36Hours();
        promise36FewerThanTwo();
        promise37WhatIsLess();
        promise37Hours();
        promise37NothingOfItIsAsItIsTold();
        promise37NoSuchOnes();
        promise38TheDay();
        promise38OfLikeOnesTheFirst();
        promise38NoWorks();
        promise4ItStaysForTheseCalls();
        sixGoodsAndEightWorks();
        CHECK.close("EdgeOtherwiseTest");
    }

    private static void kindle(WasteBrook x, int set, int n, int least, int who) {
        CHECK.eq("kindle(" + set + ", " + n + ")", x.kindle(set, n), least);
        CHECK.eq("kindled() then", x.kindled(), who);
    }

    /** KINDLED: "the least that is brought together": one less by another set, alike, one more. */
    private static void promise32TheLeastThatIsBrought() {
        // a, fed by b or brought itself; b gives what a takes
        for (int n = 1; n <= 9; n++) {
            WasteBrook x = Check.of("good w 0;good v 0;work b;takes b v 5 9 0;gives b w 9;work a;takes a w " + n + " 9 0;");
            kindle(x, 2, 1, Math.min(n, 5), n < 5 ? 2 : 1);
            kindle(x, 3, 1, 5, 1);
        }
        WasteBrook all = Check.of("good w 0;work a;takes a w 9 9 0;work b;takes b w 9 9 0;work c;takes c w 9 9 0;work d;takes d w 9 9 0;work e;takes e w 9 9 0;"
            + "work f;takes f w 9 9 0;work g;takes g w 9 9 0;work h;takes h w 9 9 0;");
        kindle(all, 255, 48, 72, 255);
        kindle(all, 128, 48, 9, 128);
        kindle(all, 0, 1, 0, 0);
    }

    /** KINDLED: "from empty vats, no PLAN: sets of WORKS each brought N of all that it takes ahead of HOUR 0". */
    private static void promise32NOfAllThatItTakesFromEmptyVats() {
        WasteBrook x = Check.of("good w 0;good v 0;work a;takes a w 3 99 99;takes a v 4 99 99;");
        Check.plan(x, "stops a 0 199;brings a w 99 0;");
        kindle(x, 1, 1, 7, 1);
        WasteBrook twice = Check.of("good w 0;good v 0;work a;takes a w 3 9 0;gives a v 1;work b;takes b v 2 9 9;");
        // N is brought, not SIZE: a goes once, and gives 1 of the 2
        kindle(twice, 2, 48, 2, 2);
        kindle(twice, 3, 48, 5, 3);
        // the 9 that a has at first would let it go twice, and b by it
        WasteBrook has = Check.of("good w 0;good v 0;work a;takes a w 1 9 9;gives a v 1;work b;takes b v 2 9 9;");
        kindle(has, 2, 48, 2, 2);
        kindle(has, 3, 48, 3, 3);
        kindle(has, 1, 48, 1, 1);
    }

    /** KINDLED: "so that each WORK of a told set GOES once at least in so many HOURS": an HOUR less, just so, one more. */
    private static void promise32GoesOnceAtLeastInSoManyHours() {
        WasteBrook x = Check.of("good w 0;work a 5 5;takes a w 1 9 0;");
        kindle(x, 1, 6, 1, 1);
        CHECK.eq("in 5 HOURS it has not come to its hour", x.kindle(1, 5), -1);
        kindle(x, 1, 7, 1, 1);
        WasteBrook fed = Check.of("good w 0;work a;takes a w 7 9 0;feeds a w 1;");
        kindle(fed, 1, 6, 7, 1);
        kindle(fed, 1, 7, 0, 0);
        kindle(fed, 1, 8, 0, 0);
        WasteBrook ring = Check.of("good w 0;work a;takes a w 1 9 0;work b;takes b w 1 9 0;work c;takes c w 1 9 0;gives c w 1;joined;");
        kindle(ring, 1, 1, 1, 1);
        kindle(ring, 1, 2, 1, 1);
        kindle(ring, 4, 1, 1, 4);
        kindle(ring, 5, 1, 2, 5);
        kindle(ring, 5, 2, 1, 4);
        kindle(ring, 7, 48, 2, 6);
    }

    /** Promise 32: "n HOURS (1 to 48)". */
    private static void promise32HoursFrom1To48() {
        WasteBrook x = Check.of("good w 0;work a;feeds a w 1;takes a w 1 9 0;");
        int[][] rows = {{-1, -2}, {0, -2}, {1, 0}, {2, 0}, {47, 0}, {48, 0}, {49, -2}, {50, -2}, {200, -2}, {LEAST, -2}, {LARGEST, -2}};
        for (int[] row : rows) {
            CHECK.eq("kindle(1, " + row[0] + ")", x.kindle(1, row[0]), row[1]);
        }
        // one a DAY, in hour 11: the fourth in HOUR 47
        WasteBrook last = Check.of("good w 0;work a 11 11;gives a w 1;work b;takes b w 4 9 0;");
        kindle(last, 2, 47, 4, 2);
        kindle(last, 2, 48, 0, 0);
    }

    /** Promise 32: "NONE: none does". */
    private static void promise32NoneDoes() {
        WasteBrook x = Check.of("good w 0;work a;takes a w 1 9 0;work b 11 11;");
        CHECK.eq("b in 11 HOURS", x.kindle(2, 11), -1);
        CHECK.eq("b in 12 HOURS", x.kindle(2, 12), 0);
        CHECK.eq("both in 11", x.kindle(3, 11), -1);
        CHECK.eq("both in 12", x.kindle(3, 12), 1);
        CHECK.eq("who was brought something for both", x.kindled(), 1);
        CHECK.eq("both in 1", x.kindle(3, 1), -1);
        CHECK.eq("it changes nothing", x.kindled(), 1);
    }

    /** Promise 32: "-2: no such ones": sets ahead of 0 and behind all, HOURS ahead of 1 and behind 48; nothing is changed by it. */
    private static void promise32NoSuchOnes() {
        for (int set : new int[] {-1, 4, 8, 256, LEAST, LARGEST}) {
            Twin.same(CHECK, "kindle(" + set + ", 1)", t -> t.kindle(set, 1), -2);
        }
        for (int n : new int[] {-1, 0, 49, 200, LEAST, LARGEST}) {
            Twin.same(CHECK, "kindle(3, " + n + ")", t -> t.kindle(3, n), -2);
        }
        WasteBrook none = new WasteBrook();
        CHECK.eq("kindle(0, 1) of none", none.kindle(0, 1), 0);
        CHECK.eq("kindle(1, 1) of none", none.kindle(1, 1), -2);
        WasteBrook eight = Check.of("work a;work b;work c;work d;work e;work f;work g;work h;");
        CHECK.eq("255 of eight", eight.kindle(255, 1), 0);
        CHECK.eq("256 of eight", eight.kindle(256, 1), -2);
    }

    /** KINDLED: "of like ones the least set as bits". */
    private static void promise33OfLikeOnesTheLeastSet() {
        // d goes by what a, b or c gives; each is brought 2, as d itself
        WasteBrook x = Check.of("good w 0;good v 0;work a;takes a v 2 2 0;gives a w 2;work b;takes b v 2 2 0;gives b w 2;work d;takes d w 2 2 0;");
        kindle(x, 4, 1, 2, 1);
        kindle(x, 6, 1, 2, 2);
        kindle(x, 5, 1, 2, 1);
        kindle(x, 7, 1, 4, 3);
    }

    /** KINDLED: sets of any WORKS: of none of the told set, and larger as bits than it. */
    private static void promise33OthersThanTheToldSet() {
        WasteBrook ring = Check.of("good w 0;good v 0;work a;takes a w 5 9 0;work b;takes b v 1 9 0;gives b w 5;joined;");
        kindle(ring, 1, 1, 5, 1);
        kindle(ring, 1, 2, 1, 2);
        kindle(ring, 2, 2, 1, 2);
        kindle(ring, 3, 2, 1, 2);
    }

    /** Promise 33: "Who is brought something": who takes nothing is brought nothing. */
    private static void promise33WhoTakesNothing() {
        WasteBrook x = Check.of("good w 0;work z;work a;takes a w 1 1 0;work y;");
        kindle(x, 7, 1, 1, 2);
        kindle(x, 5, 1, 0, 0);
    }

    /** Promise 33: "NONE ahead of any". */
    private static void promise33NoneAheadOfAny() {
        WasteBrook x = Check.of("good w 0;work a 1 1;takes a w 1 1 0;");
        CHECK.eq("ahead of any", x.kindled(), -1);
        x.kindle(1, 0);
        x.kindle(2, 1);
        CHECK.eq("such as are -2 are none", x.kindled(), -1);
        x.kindle(1, 1);
        CHECK.eq("one that is NONE is none", x.kindled(), -1);
        x.kindle(0, 1);
        CHECK.eq("one that is 0 is one", x.kindled(), 0);
    }

    /** Promise 33: "by the latest kindle() that was 0 or above". */
    private static void promise33TheLatestThatWas0OrAbove() {
        WasteBrook x = Check.of("good w 0;work a 1 1;takes a w 1 1 0;");
        kindle(x, 1, 2, 1, 1);
        CHECK.eq("NONE", x.kindle(1, 1), -1);
        CHECK.eq("stays", x.kindled(), 1);
        CHECK.eq("-2", x.kindle(1, 49), -2);
        CHECK.eq("stays", x.kindled(), 1);
        x.brook();
        CHECK.eq("stays behind another BROOK", x.kindled(), 1);
        kindle(x, 0, 1, 0, 0);
        CHECK.eq("-2 of no WORKS", x.kindle(1, 1), -2);
        CHECK.eq("stays", x.kindled(), 0);
    }

    /** WIDER: "the vat ... by whose SIZE n more most is made by all in so many HOURS": one less than is of use, just so. */
    private static void promise34TheVatByWhichMostIsMade() {
        // in hour 0 b's vat has room for 2 of 6, c's for 2 of the 4 that are left: with n more b's makes n by 5, c's n by 6
        WasteBrook x = Check.of("good w 0;work a 0 0;gives a w 6;work b;takes b w 1 2 0;makes b 5;work c;takes c w 1 2 0;makes c 6;");
        CHECK.eq("1 more: c's", x.wider(1, 12), 20);
        CHECK.eq("2 more: c's", x.wider(2, 12), 20);
        CHECK.eq("3 more of b's makes 15, and takes 1 of c's 2", x.wider(3, 12), 20);
        // with SIZES as told 10 and 12; b's vat 4 more has all of 6: 30
        CHECK.eq("4 more: c's 24 and b's 10 are more than 30", x.wider(4, 12), 20);
        WasteBrook y = Check.of("good w 0;work a 0 0;gives a w 9;work b 11 11;takes b w 5 6 0;makes b 9;work c;takes c w 1 2 0;makes c 1;");
        // b uses 5 once a DAY whatever its SIZE, so c's is the wider one
        CHECK.eq("c's", y.wider(1, 12), 20);
        WasteBrook beyond = Check.of("good w 0;work a 0 0;takes a w 9 99 99;feeds a w 9;makes a 1;work b;takes b w 1 1 0;makes b 1;");
        CHECK.eq("what a's vat has no room for comes to b: b's", beyond.wider(1, 2), 10);
    }

    /** WIDER: "by whose SIZE n more", though a BROOK can tell of none beyond 99. */
    private static void promise34LargerThanCanBeTold() {
        // for 99 HOURS 18 come to c in each, which uses 9; then it goes on by what its vat has: 90 of 99, 9 less than SIZE
        WasteBrook x = Check.of("good v 0;good w 0;work a;takes a v 1 99 99;gives a w 9;work b;takes b v 1 99 99;gives b w 9;work c;takes c w 9 99 0;makes c 1;");
        CHECK.eq("109 HOURS by c as it is told", x.by(7, 200), 109);
        CHECK.eq("8 more: 98 are left, 10 HOURS as ever, of like ones the first", x.wider(8, 200), 0);
        CHECK.eq("9 more: 99 are left, 11 HOURS", x.wider(9, 200), 21);
        CHECK.eq("99 more: 189 are left, 21 HOURS", x.wider(99, 200), 21);
        CHECK.eq("in 109 HOURS they are of no use", x.wider(99, 109), 0);
        CHECK.eq("in 110 they are", x.wider(99, 110), 21);
        // d uses 8 of 16: by 98 or 99 more it goes 12 HOURS longer, which makes 108; e, by 9 of 18, 10 or 11, which makes 100 or 110
        WasteBrook y = Check.of("good v 0;good w 0;good u 0;work a;takes a v 1 99 99;gives a w 9;gives a u 8;work b;takes b v 1 99 99;gives b w 9;gives b u 8;"
            + "work d;takes d u 8 99 0;makes d 9;work e;takes e w 9 99 0;makes e 10;");
        CHECK.eq("98 more: d's", y.wider(98, 200), 22);
        CHECK.eq("99 more: e's", y.wider(99, 200), 31);
    }

    /** WIDER: "(of the first WORK, of like ones of the lesser GOOD)". */
    private static void promise34OfLikeOnes() {
        String goods = "good f 0;good g 0;";
        CHECK.eq("one vat of GOOD 1", Check.of(goods + "work z;work a;takes a g 1 1 0;").wider(1, 1), 11);
        CHECK.eq("two of one WORK", Check.of(goods + "work z;work a;takes a g 1 1 0;takes a f 1 1 0;").wider(1, 1), 10);
        CHECK.eq("the first WORK's, though of the larger GOOD", Check.of(goods + "work a;takes a g 1 1 0;work b;takes b f 1 1 0;").wider(1, 1), 1);
        String last = "good a 0;good b 0;good c 0;good d 0;good e 0;good f 0;work p;work q;work r;work s;work t;work u;work v;work w;takes w f 1 1 0;";
        CHECK.eq("the last there can be", Check.of(last).wider(1, 1), 75);
    }

    /** WIDER "by n (1 to 99)". */
    private static void promise34From1To99() {
        WasteBrook x = Check.of("good v 0;good w 0;work a;takes a v 1 1 0;work b;takes b w 1 1 1;makes b 1;");
        int[][] rows = {{-1, -1}, {0, -1}, {1, 0}, {2, 0}, {98, 0}, {99, 0}, {100, -1}, {LEAST, -1}, {LARGEST, -1}};
        for (int[] row : rows) {
            CHECK.eq("wider(" + row[0] + ", 1)", x.wider(row[0], 1), row[1]);
        }
        for (int n : new int[] {-1, 0, 100, LEAST, LARGEST}) {
            Twin.same(CHECK, "wider(" + n + ", 1)", t -> t.wider(n, 1), -1);
        }
        Twin.same(CHECK, "wider(99, 200)", t -> t.wider(99, 200), 10);
    }

    /** WIDER "in so many HOURS (1 to 200)". */
    private static void promise34Hours() {
        for (int hours : NO_HOURS) {
            Twin.same(CHECK, "wider(1, " + hours + ")", t -> t.wider(1, hours), -1);
        }
        for (int hours : new int[] {1, 2, 199, 200}) {
            Twin.same(CHECK, "wider(1, " + hours + ")", t -> t.wider(1, hours), 10);
        }
        // by its 2 more b goes in HOURS 1 and 2 as well: of no use in one HOUR, of use in two
        WasteBrook x = Check.of("good v 0;good w 0;work z;takes z v 1 1 0;work a 0 0;gives a w 3;work b;takes b w 1 1 0;makes b 1;");
        CHECK.eq("in 1 HOUR the first", x.wider(2, 1), 0);
        CHECK.eq("in 2 HOURS b's", x.wider(2, 2), 21);
        CHECK.eq("in 200", x.wider(2, 200), 21);
    }

    /** Promise 34: "NONE: no vats". */
    private static void promise34NoVats() {
        CHECK.eq("of an empty BROOK", new WasteBrook().wider(1, 1), -1);
        CHECK.eq("of WORKS that take nothing", Check.of("good w 0;work a;gives a w 1;feeds a w 1;makes a 1;").wider(1, 1), -1);
        CHECK.eq("of one that takes", Check.of("good w 0;work a;takes a w 1 1 0;").wider(1, 1), 0);
    }

    /** LONGER: "the WORK by whose TILL n more ... most is made". */
    private static void promise35TheWork() {
        WasteBrook x = Check.of("work a 0 2;makes a 5;work b 0 3;makes b 5;work c 0 4;makes c 6;");
        CHECK.eq("c", x.longer(1, 12), 2);
        CHECK.eq("in 6 HOURS by 1", x.longer(1, 6), 2);
        CHECK.eq("in 5 HOURS c's is too late: a", x.longer(1, 5), 0);
        CHECK.eq("in 3 HOURS none is of use: the first", x.longer(11, 3), 0);
        CHECK.eq("in 4 HOURS a", x.longer(11, 4), 0);
        WasteBrook like = Check.of("work a 0 11;makes a 9;work b 0 3;makes b 5;work c 0 3;makes c 5;");
        CHECK.eq("of like ones the first", like.longer(1, 12), 1);
    }

    /** LONGER: "(11 at most)": to 10, to 11, and no further. */
    private static void promise35ElevenAtMost() {
        // a has 3 hours to 11 at most, b has 4
        WasteBrook x = Check.of("work a 0 8;makes a 4;work b 0 7;makes b 3;");
        CHECK.eq("by 2: 8 and 6", x.longer(2, 12), 0);
        CHECK.eq("by 3: 12 and 9", x.longer(3, 12), 0);
        CHECK.eq("by 4: 12 and 12, of like ones the first", x.longer(4, 12), 0);
        WasteBrook y = Check.of("work a 0 8;makes a 4;work b 0 6;makes b 3;");
        CHECK.eq("by 4: 12 and 12", y.longer(4, 12), 0);
        CHECK.eq("by 5: 12 and 15", y.longer(5, 12), 1);
        CHECK.eq("by 11: 12 and 15", y.longer(11, 12), 1);
        WasteBrook at11 = Check.of("work a;makes a 99;work b 0 10;makes b 1;");
        CHECK.eq("a's is 11", at11.longer(11, 200), 1);
        WasteBrook from = Check.of("work a 11 11;makes a 9;work b 10 10;makes b 1;");
        CHECK.eq("nor to the next DAY", from.longer(1, 200), 1);
    }

    /** LONGER "by n (1 to 11)". */
    private static void promise35From1To11() {
        WasteBrook x = Check.of("work a 0 0;work b 0 0;makes b 1;");
        int[][] rows = {{-1, -1}, {0, -1}, {1, 1}, {2, 1}, {10, 1}, {11, 1}, {12, -1}, {LEAST, -1}, {LARGEST, -1}};
        for (int[] row : rows) {
            CHECK.eq("longer(" + row[0] + ", 12)", x.longer(row[0], 12), row[1]);
        }
        for (int n : new int[] {-1, 0, 12, LEAST, LARGEST}) {
            Twin.same(CHECK, "longer(" + n + ", 1)", t -> t.longer(n, 1), -1);
        }
        Twin.same(CHECK, "longer(11, 200)", t -> t.longer(11, 200), 0);
        // a's 10 come by the first hour more, b's by each of them one
        WasteBrook eleven = Check.of("work a 10 10;makes a 10;work b 0 0;makes b 1;");
        CHECK.eq("by 10: a's 10, b's 10", eleven.longer(10, 12), 0);
        CHECK.eq("by 11: a's 10, b's 11", eleven.longer(11, 12), 1);
    }

    /** LONGER "in so many HOURS (1 to 200)". */
    private static void promise35Hours() {
        for (int hours : NO_HOURS) {
            Twin.same(CHECK, "longer(1, " + hours + ")", t -> t.longer(1, hours), -1);
        }
        for (int hours : new int[] {1, 2, 199, 200}) {
            Twin.same(CHECK, "longer(1, " + hours + ")", t -> t.longer(1, hours), 0);
        }
        // HOUR 199 is hour 7 of its DAY
        WasteBrook x = Check.of("work a 0 7;makes a 16;work b 0 6;makes b 17;");
        CHECK.eq("hour 7 comes 17 times in 200", x.longer(1, 200), 1);
        CHECK.eq("16 times in 199: 16 by 16 and 17 by 16", x.longer(1, 199), 1);
        WasteBrook y = Check.of("work a 0 5;makes a 17;work b 0 6;makes b 16;");
        CHECK.eq("17 by 17 and 17 by 16", y.longer(1, 200), 0);
        WasteBrook z = Check.of("work a 0 7;makes a 17;work b 0 6;makes b 16;");
        CHECK.eq("16 by 17 and 17 by 16: alike", z.longer(1, 200), 0);
        WasteBrook w = Check.of("work a 0 7;makes a 33;work b 0 6;makes b 32;");
        CHECK.eq("16 by 33 is 528, 17 by 32 is 544", w.longer(1, 200), 1);
        CHECK.eq("in 199 16 by 33 and 16 by 32", w.longer(1, 199), 0);
    }

    /** Promise 35: "NONE: no WORKS": none, and one. */
    private static void promise35NoWorks() {
        CHECK.eq("none", new WasteBrook().longer(1, 1), -1);
        CHECK.eq("GOODS alone", Check.of("good w 0;").longer(1, 1), -1);
        CHECK.eq("one", Check.of("work a;").longer(1, 1), 0);
    }

    /** EXCHANGED: "the WORK and the one next below it that, each in the other's place": with all that is told of it. */
    private static void promise36EachInTheOthersPlace() {
        String[] lower = {"work b;takes b w 1 1 0;makes b 5;", "work b 0 0;takes b w 1 1 0;makes b 5;"};
        for (String b : lower) {
            WasteBrook x = Check.of("good w 0;work z;" + b + "work a 0 0;gives a w 1;work y;");
            CHECK.eq("a above b", x.exchanged(2), 1);
        }
        WasteBrook last = Check.of("good w 0;work z;work y;" + lower[0] + "work a;gives a w 1;");
        CHECK.eq("the last two", last.exchanged(1), 2);
        WasteBrook first = Check.of("good w 0;" + lower[0] + "work a;gives a w 1;work y;work z;");
        CHECK.eq("the first two", first.exchanged(1), 0);
        WasteBrook hours = Check.of("good w 0;work z;work b 11 11;takes b w 1 9 0;makes b 5;work a 0 0;gives a w 1;");
        CHECK.eq("each with its hours: there is something for b in its hour", hours.exchanged(12), 1);
        WasteBrook had = Check.of("good w 0;work b;takes b w 1 9 9;makes b 5;work y;work z;");
        CHECK.eq("with what it has: all alike", had.exchanged(9), 0);
        WasteBrook fed = Check.of("good w 1;work b;feeds b w 2;work y;work c;takes c w 1 3 0;makes c 5;");
        CHECK.eq("with what is fed to it: 1 comes to c from y's place", fed.exchanged(1), 0);
        // LOSS is of the place, not of the WORK: a nearer to c by one place
        WasteBrook loss = Check.of("good w 1;work x;work a;gives a w 2;work b;work c;takes c w 1 1 0;makes c 5;work d;");
        CHECK.eq("a and b", loss.exchanged(1), 1);
    }

    /** Promise 36: "the upper WORK (of like ones the first)". */
    private static void promise36OfLikeOnesTheFirst() {
        // a never goes, b always and c in HOUR 0 alone, wherever they are
        WasteBrook once = Check.of("good w 0;work a;takes a w 1 30 0;makes a 2;work b;makes b 1;work c;takes c w 1 1 1;makes c 1;");
        for (int hours : new int[] {1, 12, 13, 24, 36, 48, 199, 200}) {
            CHECK.eq("exchanged(" + hours + ")", once.exchanged(hours), 0);
        }
        CHECK.eq("all alike", Check.of("work a;work b;work c;makes c 1;").exchanged(5), 0);
        WasteBrook x = Check.of("good w 0;work b;takes b w 1 1 0;makes b 5;work a;gives a w 1;work c;takes c w 1 1 0;makes c 5;work d;");
        CHECK.eq("1 for b by exchange, none for c then: alike", x.exchanged(1), 0);
        WasteBrook eight = Check.of("good x 0;work p;work q;work r;work s;work t;work u;work v;takes v x 1 1 0;makes v 1;work w;gives w x 1;");
        CHECK.eq("of eight the seventh", eight.exchanged(1), 6);
    }

    /** EXCHANGED "in so many HOURS (1 to 200)". */
    private static void promise36Hours() {
        for (int hours : NO_HOURS) {
            Twin.same(CHECK, "exchanged(" + hours + ")", t -> t.exchanged(hours), -1);
        }
        for (int hours : new int[] {1, 2, 199, 200}) {
            Twin.same(CHECK, "exchanged(" + hours + ")", t -> t.exchanged(hours), 0);
        }
        // with a above it b goes in hour 7
        WasteBrook x = Check.of("good w 0;work z;work b 7 7;takes b w 9 9 0;makes b 1;work a 7 7;gives a w 9;");
        CHECK.eq("in 7 HOURS none goes", x.exchanged(7), 0);
        CHECK.eq("in 8 HOURS b", x.exchanged(8), 1);
    }

    /** Promise 36: "NONE: fewer than two": none, one, two. */
    private static void promise36FewerThanTwo() {
        CHECK.eq("none", new WasteBrook().exchanged(1), -1);
        CHECK.eq("one", Check.of("work a;").exchanged(1), -1);
        CHECK.eq("one and GOODS", Check.of("good w 0;good v 0;work a;").exchanged(200), -1);
        CHECK.eq("two", Check.of("work a;work b;").exchanged(1), 0);
    }

    /** Promise 37: "What is less MADE by all in so many HOURS, if GOOD g is not fed to WORK w": of that GOOD and WORK alone. */
    private static void promise37WhatIsLess() {
        WasteBrook x = Check.of("good w 0;good v 0;work a;feeds a w 1;feeds a v 2;takes a w 1 1 0;makes a 3;work b;feeds b w 1;takes b w 1 1 0;takes b v 2 2 0;makes b 5;");
        CHECK.eq("w of a", x.dry(0, 0, 4), 12);
        CHECK.eq("v of a", x.dry(0, 1, 4), 20);
        CHECK.eq("w of b", x.dry(1, 0, 4), 20);
        CHECK.eq("v of b", x.dry(1, 1, 4), -1);
        WasteBrook besides = Check.of("good w 0;work a;gives a w 1;work b;feeds b w 1;takes b w 2 2 0;makes b 3;");
        CHECK.eq("what comes from above comes still", besides.dry(1, 0, 10), 15);
        WasteBrook none = Check.of("good w 0;work a;feeds a w 1;makes a 1;");
        CHECK.eq("what nobody takes", none.dry(0, 0, 200), 0);
        WasteBrook most = Check.of("good w 0;work a;feeds a w 9;takes a w 9 9 0;makes a 99;");
        CHECK.eq("the most", most.dry(0, 0, 200), 19800);
    }

    /** Promise 37: "HOURS (1 to 200)". */
    private static void promise37Hours() {
        WasteBrook x = Check.of("good w 0;work a;feeds a w 1;takes a w 1 1 0;makes a 1;");
        int[][] rows = {{-1, -1}, {0, -1}, {1, 1}, {2, 2}, {199, 199}, {200, 200}, {201, -1}, {LEAST, -1}, {LARGEST, -1}};
        for (int[] row : rows) {
            CHECK.eq("dry(0, 0, " + row[0] + ")", x.dry(0, 0, row[0]), row[1]);
        }
        for (int hours : NO_HOURS) {
            Twin.same(CHECK, "dry(1, 1, " + hours + ")", t -> t.dry(1, 1, hours), -1);
        }
        Twin.same(CHECK, "dry(1, 1, 200)", t -> t.dry(1, 1, 200), 0);
    }

    /** Promise 37: "NONE: nothing of it is as it is told". */
    private static void promise37NothingOfItIsAsItIsTold() {
        WasteBrook x = Check.of("good w 0;good v 0;work a;takes a w 1 9 9;gives a w 1;work b;feeds b v 1;");
        CHECK.eq("taken and given, not fed", x.dry(0, 0, 1), -1);
        CHECK.eq("fed to another", x.dry(0, 1, 1), -1);
        CHECK.eq("of another GOOD", x.dry(1, 0, 1), -1);
        CHECK.eq("fed", x.dry(1, 1, 1), 0);
        Twin.same(CHECK, "dry(0, 0, 1)", t -> t.dry(0, 0, 1), -1);
    }

    /** Promise 37: "no such ones". */
    private static void promise37NoSuchOnes() {
        for (int i : new int[] {-1, 2, 6, 8, LEAST, LARGEST}) {
            Twin.same(CHECK, "dry(" + i + ", 1, 1)", t -> t.dry(i, 1, 1), -1);
            Twin.same(CHECK, "dry(1, " + i + ", 1)", t -> t.dry(1, i, 1), -1);
        }
        CHECK.eq("of an empty BROOK", new WasteBrook().dry(0, 0, 1), -1);
        CHECK.eq("without GOODS", Check.of("work a;").dry(0, 0, 1), -1);
        CHECK.eq("without WORKS", Check.of("good w 0;").dry(0, 0, 1), -1);
        WasteBrook last = Check.of("good a 0;good b 0;good c 0;good d 0;good e 0;good f 0;work p;work q;work r;work s;work t;work u;work v;work w;feeds w f 1;takes w f 1 1 0;makes w 2;");
        CHECK.eq("the last WORK and GOOD", last.dry(7, 5, 3), 6);
        CHECK.eq("one WORK behind it", last.dry(8, 5, 3), -1);
        CHECK.eq("one GOOD behind it", last.dry(7, 6, 3), -1);
    }

    /** REST: "the DAY of the first seven in which all stand, so that most is made in 84 HOURS": DAY 0, one between, DAY 6. */
    private static void promise38TheDay() {
        // 2 used and 1 fed a HOUR, from a full vat of 24: on DAY 0 what is fed finds no room
        WasteBrook one = Check.of("good p 0;work a;feeds a p 1;takes a p 2 24 24;makes a 1;");
        CHECK.eq("DAY 1", one.rest(), 1);
        // 7 used and 1 fed a HOUR, from a full vat of 7, in all hours but 0: b goes 11 times, if it stands on DAY 1, 2, 4 or 5, else 10
        WasteBrook whole = Check.of("good p 0;work b 1 11;feeds b p 1;takes b p 7 7 7;makes b 1;");
        CHECK.eq("DAY 1, in all of its hours", whole.rest(), 1);
        // the vat of 99 is used by 9 in one HOUR of a DAY and fed 0: eleven DAYS' are there, all alike
        WasteBrook alike = Check.of("good p 0;work a 0 0;takes a p 9 99 99;makes a 1;");
        CHECK.eq("DAY 0", alike.rest(), 0);
        // six DAYS' are had: whoever rests on any of the seven makes six
        WasteBrook six = Check.of("good p 0;work a 0 0;takes a p 9 99 54;makes a 1;");
        CHECK.eq("six DAYS' are had", six.rest(), 0);
        // 9 are fed a DAY, 9 used a DAY, room for 9: each DAY is alike
        WasteBrook full = Check.of("good p 0;work a 0 0;feeds a p 9;takes a p 9 9 0;makes a 1;");
        CHECK.eq("DAY 0 again", full.rest(), 0);
        // b loses 1 of what a gives each time that h goes, by what is fed to it: 9 times, but 8 if all stand on the last DAY
        WasteBrook last6 = Check.of("good u 0;good w 0;work a;gives a w 1;work h;takes h u 9 99 0;feeds h u 1;takes h w 1 1 1;work b;takes b w 1 1 0;makes b 1;");
        CHECK.eq("DAY 6", last6.rest(), 6);
        // 9 are used at a time, 1 is fed a HOUR
        for (int has = 0; has <= 99; has += 9) {
            WasteBrook x = Check.of("good p 0;work a;feeds a p 1;takes a p 9 99 " + has + ";makes a 1;");
            int[] made = new int[7];
            int best = 0;
            for (int day = 0; day < 7; day++) {
                made[day] = madeByPlan(x, day);
                best = made[day] > made[best] ? day : best;
            }
            CHECK.eq("as by PLANS, from " + has, x.rest(), best);
        }
        // what c gives on a DAY of rest would be too late for a's hour, what is fed to c is not lost by it
        WasteBrook last = Check.of("good p 0;good q 0;work c;feeds c p 1;takes c p 9 99 0;gives c q 1;work a 0 0;takes a q 1 9 6;makes a 1;");
        CHECK.eq("by PLANS", last.rest(), bestByPlans(last));
    }

    private static int bestByPlans(WasteBrook x) {
        int best = 0;
        int most = -1;
        for (int day = 0; day < 7; day++) {
            int made = madeByPlan(x, day);
            if (made > most) {
                most = made;
                best = day;
            }
        }
        return best;
    }

    private static int madeByPlan(WasteBrook x, int day) {
        String span = " " + 12 * day + " " + (12 * day + 11) + ";";
        Check.plan(x, "stops a" + span + (x.count(1) > 1 ? "stops c" + span : ""));
        x.begin();
        x.on(84);
        return x.made();
    }

    /** REST: "of like ones the first"; what PLAN and RUN there are counts nothing. */
    private static void promise38OfLikeOnesTheFirst() {
        WasteBrook x = Check.of("work a;makes a 1;");
        CHECK.eq("all alike", x.rest(), 0);
        Check.plan(x, "stops a 12 199;");
        CHECK.eq("no PLAN", x.rest(), 0);
        CHECK.eq("nothing made", Check.of("work a;").rest(), 0);
        int day = Twin.full().rest();
        Twin.same(CHECK, "rest()", t -> t.rest(), day);
    }

    /** Promise 4: with a FAULT "it stays": what these calls answer of it, too, each as the first call behind the FAULT. */
    private static void promise4ItStaysForTheseCalls() {
        String text = "good v 0;good w 0;work z;takes z v 1 1 0;work b 0 5;takes b w 3 4 0;makes b 5;feeds b v 2;work a 0 0;gives a w 9;makes a 2;work c;takes c w 1 2 0;makes c 1;";
        String wrong = "good p 9;good q 9;work z;takes z p 9 99 99;makes z 99;work y;feeds y q 9;makes y 9;work x;work u;?";
        Twin.Call[] calls = {x -> x.fed(2), x -> x.wider(3, 24), x -> x.longer(2, 24), x -> x.exchanged(24), x -> x.dry(1, 0, 24), x -> x.rest(), x -> x.kindle(2, 3),
            x -> x.by(15, 24), x -> x.again(0), x -> x.needed(1, 24), x -> x.worth(24), x -> x.steadies(-1), x -> x.order(1), x -> x.goes(3, 1)};
        int[] due = {31, 31, 2, 1, 0, 0, 3, 4 + 4, 0, 0, 8, 3, 3, 3};
        for (int i = 0; i < calls.length; i++) {
            WasteBrook x = Check.of(text);
            CHECK.eq("call " + i, calls[i].answer(x), due[i]);
            WasteBrook y = Check.of(text);
            CHECK.eq("a FAULT", Check.brook(y, wrong), -wrong.length());
            CHECK.eq("call " + i + " behind a FAULT", calls[i].answer(y), due[i]);
        }
    }

    /** Promises 32 to 38 where there are as many GOODS and WORKS as can be. */
    private static void sixGoodsAndEightWorks() {
        String all = "good a 0;good b 0;good c 0;good d 0;good e 0;good f 0;work p;work q;work r;work s;work t;work u;work v;work w;";
        WasteBrook x = Check.of(all + "takes p f 1 1 0;takes q a 1 1 0;takes v f 2 9 0;makes v 3;takes w a 1 1 0;takes w f 3 9 0;gives w f 2;feeds w f 9;makes w 1;");
        kindle(x, 1, 1, 1, 1);
        kindle(x, 2, 1, 1, 2);
        kindle(x, 3, 1, 2, 3);
        kindle(x, 128, 1, 4, 128);
        CHECK.eq("v below w has what w's full vat leaves", x.exchanged(4), 6);
        CHECK.eq("f of w", x.dry(7, 5, 4), 0);
        CHECK.eq("all alike", x.wider(99, 4), 5);
        CHECK.eq("all alike", x.longer(11, 4), 0);
        CHECK.eq("all alike", x.rest(), 0);
    }

    /** Promise 38: "NONE: no WORKS": none, and one. */
    private static void promise38NoWorks() {
        CHECK.eq("none", new WasteBrook().rest(), -1);
        CHECK.eq("GOODS alone", Check.of("good w 0;joined;").rest(), -1);
        CHECK.eq("one", Check.of("work a;").rest(), 0);
    }
}
