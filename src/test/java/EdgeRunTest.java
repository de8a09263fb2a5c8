/**
 * Promises 9 to 16 and 19, with what part 2 says of a RUN, which on() does: each sentence that names a
 * boundary, at it and a step to either side.
 */
public final class EdgeRunTest {
    private static final Check CHECK = new Check();
    private static final int LEAST = Integer.MIN_VALUE;
    private static final int LARGEST = Integer.MAX_VALUE;

    private EdgeRunTest() {
    }

    public static void main(String[] args) {
        daysOf12();
        vatsHaveHasNothingIsInTheBrook();
        atTheTopNothing();
        joinedWhatCameInTheHourAhead();
        lessLossZeroAtLeast();
        belowEachWorkButTheLast();
        eachVatTakesWhatItHasRoomFor();
        vatsTakeOneByOneAlongTheBrook();
        fedAtEachWorkAheadOfItsVat();
        goesIfItsHoursAreSo();
        goesIfEachVatHasNAtLeast();
        goesIfNoPlanStopsIt();
        whatItGivesComesBelowIt();
        broughtBeyondSizeIsLost();
        partsAreAll();
        foundTillItIsEmpty();
        foundInAVatFilledWithNothing();
        foundInWhatIsGivenLater();
        foundInWhatHasTheMarkAlready();
        foundOnTheWayToTheTop();
        foundNoneInWhatWasFedBroughtHad();
        comesAsTheyGaveIt();
        lacksLessThanN();
        promise9FalseThereAreNoWorks();
        promise9ARunBegins();
        promise10From0To200();
        promise10TheLastHourIs199();
        promise10ByThePlanAsItIs();
        promise10NoneNotAsTold();
        promise11Hour();
        promise12Vat();
        promise12None();
        promise13OfAWork();
        promise13TheLatestHour();
        promise13None();
        promise14OfAGood();
        promise14None();
        promise15Comes();
        promise15None();
        promise16Lacks();
        promise16None();
        promise19Made();
        sixGoodsAndEightWorks();
        CHECK.close("EdgeRunTest");
    }

    private static WasteBrook begun(String text) {
        WasteBrook x = Check.of(text);
        x.begin();
        return x;
    }

    /** "of DAYS of 12 each": a WORK of hour 11 and one of hour 0 at the turn of the first DAY, and of the last. */
    private static void daysOf12() {
        WasteBrook x = begun("work a 11 11;work b 0 0;");
        int[] hours = {0, 1, 10, 11, 12, 13, 22, 23, 24, 25, 191, 192, 193, 199};
        for (int hour : hours) {
            x.on(hour - x.hour());
            x.on(1);
            CHECK.eq("a in HOUR " + hour, x.went(0, 5), hour % 12 == 11 ? 1 : 0);
            CHECK.eq("b in HOUR " + hour, x.went(1, 5), hour % 12 == 0 ? 1 : 0);
        }
        CHECK.eq("the last DAY has 8 HOURS: a", x.went(0, 0), 16);
        CHECK.eq("b", x.went(1, 0), 17);
    }

    /** "Ahead of it vats have HAS of what they take; nothing is in the brook". */
    private static void vatsHaveHasNothingIsInTheBrook() {
        WasteBrook x = begun("good w 9;work a;takes a w 1 9 0;work b;takes b w 9 99 99;work c;takes c w 2 2 1;joined;");
        CHECK.eq("0", x.vat(0, 0), 0);
        CHECK.eq("99", x.vat(1, 0), 99);
        CHECK.eq("1", x.vat(2, 0), 1);
        CHECK.eq("in vats", x.parts(0, 6), 100);
        CHECK.eq("on its way", x.parts(0, 7), 0);
        x.on(1);
        CHECK.eq("9 used", x.parts(0, 3), 9);
        CHECK.eq("nothing came, nothing was lost", x.parts(0, 4), 0);
        x.on(100);
        x.begin();
        CHECK.eq("of the next RUN, too", x.parts(0, 6), 100);
    }

    /** "STREAM ...: at the top nothing", when it is not JOINED: what came to the end does not come again. */
    private static void atTheTopNothing() {
        String text = "good w 0;work a;takes a w 1 9 0;work b 0 0;gives b w 3;";
        WasteBrook open = begun(text);
        WasteBrook ring = begun(text + "joined;");
        open.on(3);
        ring.on(3);
        CHECK.eq("a never goes", open.went(0, 0), 0);
        CHECK.eq("let out", open.parts(0, 5), 3);
        CHECK.eq("on its way", open.parts(0, 7), 0);
        CHECK.eq("a goes when it is JOINED", ring.went(0, 0), 2);
        CHECK.eq("nothing is let out", ring.parts(0, 5), 0);
    }

    /** "JOINED, what came to the end in the HOUR ahead, less LOSS (0 at least)": LOSS less than it, alike, more. */
    private static void joinedWhatCameInTheHourAhead() {
        for (int loss = 0; loss <= 9; loss++) {
            WasteBrook x = begun("good w " + loss + ";work a 1 11;takes a w 1 99 0;work b;work c 0 0;gives c w 4;joined;");
            x.on(1);
            CHECK.eq("4 on their way, LOSS " + loss, x.parts(0, 7), 4);
            CHECK.eq("none lost yet", x.parts(0, 4), 0);
            CHECK.eq("none there yet", x.vat(0, 0), 0);
            x.on(1);
            int there = Math.max(0, 4 - loss);
            CHECK.eq("lost then", x.parts(0, 4), 4 - there);
            CHECK.eq("a went", x.went(0, 0), there > 0 ? 1 : 0);
            CHECK.eq("what is left in its vat", x.vat(0, 0), Math.max(0, there - 1));
            CHECK.eq("none on its way", x.parts(0, 7), 0);
        }
    }

    /** "Below each WORK but the last STREAM is less by LOSS (0 at least)": LOSS one less than the STREAM, alike, one more. */
    private static void lessLossZeroAtLeast() {
        for (int given = 1; given <= 9; given++) {
            for (int loss = 0; loss <= 9; loss++) {
                WasteBrook x = begun("good w " + loss + ";work a;gives a w " + given + ";work b;");
                x.on(1);
                CHECK.eq("lost of " + given, x.parts(0, 4), Math.min(given, loss));
                CHECK.eq("let out of " + given, x.parts(0, 5), Math.max(0, given - loss));
            }
        }
    }

    /** "Below each WORK but the last": 0, 1 and 7 ways for 1, 2 and 8 WORKS; JOINED one more, in the next HOUR. */
    private static void belowEachWorkButTheLast() {
        String names = "abcdefgh";
        for (int works = 1; works <= 8; works++) {
            StringBuilder b = new StringBuilder("good w 1;");
            for (int w = 0; w < works; w++) {
                b.append("work ").append(names.charAt(w)).append(w == 0 ? " 0 0;" : ";");
            }
            b.append("gives a w 9;");
            WasteBrook open = begun(b.toString());
            open.on(1);
            CHECK.eq("lost by " + works, open.parts(0, 4), works - 1);
            CHECK.eq("let out by " + works, open.parts(0, 5), 10 - works);
            WasteBrook ring = begun(b + "joined;");
            ring.on(1);
            CHECK.eq("lost in the ring", ring.parts(0, 4), works - 1);
            CHECK.eq("on its way", ring.parts(0, 7), 10 - works);
            ring.on(1);
            CHECK.eq("one round more", ring.parts(0, 4), Math.min(9, 2 * works - 1));
        }
    }

    /** "each vat takes of it what it has room for": room for one less than there is, for all, for one more, for none. */
    private static void eachVatTakesWhatItHasRoomFor() {
        for (int has = 0; has <= 9; has++) {
            WasteBrook x = begun("good w 0;work a;gives a w 5;work b 11 11;takes b w 1 9 " + has + ";");
            x.on(1);
            CHECK.eq("in the vat that had " + has, x.vat(1, 0), Math.min(9, has + 5));
            CHECK.eq("let out", x.parts(0, 5), Math.max(0, has + 5 - 9));
        }
        WasteBrook large = begun("good w 0;work a;gives a w 9;work b 11 11;takes b w 1 99 89;");
        large.on(1);
        CHECK.eq("98", large.vat(1, 0), 98);
        large.on(1);
        CHECK.eq("99", large.vat(1, 0), 99);
        CHECK.eq("8 let out", large.parts(0, 5), 8);
        WasteBrook one = begun("good w 0;work a;gives a w 1;work b;takes b w 1 1 0;");
        one.on(200);
        CHECK.eq("a vat of 1", one.went(1, 0), 200);
    }

    /** "WORK by WORK from the top down": what an upper vat takes does not come to a lower one. */
    private static void vatsTakeOneByOneAlongTheBrook() {
        WasteBrook x = begun("good w 0;work a;gives a w 3;work b 11 11;takes b w 1 2 0;work c 11 11;takes c w 1 9 0;");
        x.on(1);
        CHECK.eq("b", x.vat(1, 0), 2);
        CHECK.eq("c has the rest", x.vat(2, 0), 1);
        x.on(1);
        CHECK.eq("b is full", x.vat(1, 0), 2);
        CHECK.eq("c has all", x.vat(2, 0), 4);
        WasteBrook up = begun("good w 0;work c;takes c w 1 9 0;work a;gives a w 3;");
        up.on(200);
        CHECK.eq("nothing comes up", up.went(0, 0), 0);
    }

    /** "At each WORK it is more by what is fed there; then each vat takes": at the first, between, and at the last. */
    private static void fedAtEachWorkAheadOfItsVat() {
        for (int w = 0; w < 3; w++) {
            char at = "abc".charAt(w);
            WasteBrook x = begun("good w 0;work a;takes a w 1 1 0;work b;takes b w 1 1 0;work c;takes c w 1 1 0;feeds " + at + " w 1;");
            x.on(1);
            for (int i = 0; i < 3; i++) {
                CHECK.eq("WORK " + i + ", fed at " + w, x.went(i, 0), i == w ? 1 : 0);
            }
            CHECK.eq("1 was fed", x.parts(0, 0), 1);
        }
        WasteBrook nine = begun("good w 9;work a;feeds a w 9;work b;feeds b w 9;work c;feeds c w 9;takes c w 9 9 0;");
        nine.on(2);
        CHECK.eq("what is fed below is not lost above", nine.went(2, 0), 2);
        CHECK.eq("fed", nine.parts(0, 0), 54);
        CHECK.eq("lost", nine.parts(0, 4), 36);
    }

    /** "GOES, if its hours are so (of the DAY)": the hour ahead of FROM, FROM, TILL, the one behind it, of each DAY. */
    private static void goesIfItsHoursAreSo() {
        int[][] spans = {{0, 0}, {0, 1}, {3, 3}, {3, 7}, {10, 11}, {11, 11}, {0, 11}, {1, 10}};
        for (int[] span : spans) {
            WasteBrook x = begun("work a " + span[0] + " " + span[1] + ";");
            for (int hour = 0; hour < 36; hour++) {
                x.on(1);
                boolean so = hour % 12 >= span[0] && hour % 12 <= span[1];
                CHECK.eq("a " + span[0] + " " + span[1] + " in HOUR " + hour, x.went(0, 5), so ? 1 : 0);
            }
        }
    }

    /** "each of its vats has N at least: N of each are used": one less, N, one more; of two vats one less in one. */
    private static void goesIfEachVatHasNAtLeast() {
        for (int n = 1; n <= 9; n++) {
            for (int has = n - 1; has <= n + 1; has++) {
                WasteBrook x = begun("good w 0;work a;takes a w " + n + " 10 " + has + ";");
                x.on(1);
                CHECK.eq("N " + n + ", HAS " + has, x.went(0, 0), has >= n ? 1 : 0);
                CHECK.eq("used", x.parts(0, 3), has >= n ? n : 0);
                CHECK.eq("left", x.vat(0, 0), has >= n ? has - n : has);
            }
        }
        int[][] two = {{2, 3, 0}, {3, 2, 0}, {2, 2, 0}, {3, 3, 1}, {4, 3, 1}, {3, 4, 1}};
        for (int[] row : two) {
            WasteBrook x = begun("good w 0;good v 0;work a;takes a w 3 9 " + row[0] + ";takes a v 3 9 " + row[1] + ";");
            x.on(1);
            CHECK.eq("with " + row[0] + " and " + row[1], x.went(0, 0), row[2]);
            CHECK.eq("used of w", x.parts(0, 3), 3 * row[2]);
            CHECK.eq("used of v", x.parts(1, 3), 3 * row[2]);
        }
        WasteBrook none = begun("work a;");
        none.on(200);
        CHECK.eq("who takes nothing goes", none.went(0, 0), 200);
    }

    /** "no PLAN stops it": its vats are filled then all the same, and it lacks nothing. */
    private static void goesIfNoPlanStopsIt() {
        WasteBrook x = begun("good w 0;work a;gives a w 1;work b;takes b w 1 3 0;");
        Check.plan(x, "stops b 0 3;");
        int[] vats = {1, 2, 3, 3, 3, 3};
        for (int hour = 0; hour < 6; hour++) {
            x.on(1);
            CHECK.eq("behind HOUR " + hour, x.vat(1, 0), hour < 4 ? vats[hour] : 2);
            CHECK.eq("went", x.went(1, 0), Math.max(0, hour - 3));
        }
        CHECK.eq("let out when it was full", x.parts(0, 5), 1 + 1);
        CHECK.eq("no LACKS", x.lacks(1, 0), 0);
    }

    /** "what it gives comes to the STREAM": below it, not to its own vat in that HOUR. */
    private static void whatItGivesComesBelowIt() {
        WasteBrook x = begun("good w 0;work a;takes a w 1 9 1;gives a w 9;work b;takes b w 1 5 0;");
        x.on(1);
        CHECK.eq("not to its own vat", x.vat(0, 0), 0);
        CHECK.eq("b's is filled", x.vat(1, 0), 4);
        CHECK.eq("4 let out", x.parts(0, 5), 4);
        x.on(1);
        CHECK.eq("a has none", x.went(0, 0), 1);
        CHECK.eq("b has", x.went(1, 0), 2);
    }

    /** "What is brought beyond SIZE is lost": room for one more than is brought, just for it, for one less, for none. */
    private static void broughtBeyondSizeIsLost() {
        for (int has = 0; has <= 9; has++) {
            WasteBrook x = begun("good w 0;work a 11 11;takes a w 1 9 " + has + ";");
            Check.plan(x, "brings a w 4 1;");
            x.on(2);
            CHECK.eq("in the vat that had " + has, x.vat(0, 0), Math.min(9, has + 4));
            CHECK.eq("brought", x.parts(0, 1), 4);
            CHECK.eq("lost", x.parts(0, 4), Math.max(0, has + 4 - 9));
            CHECK.eq("nothing else", x.parts(0, 0) + x.parts(0, 2) + x.parts(0, 3) + x.parts(0, 5) + x.parts(0, 7), 0);
        }
    }

    /** "PARTS of a GOOD: HAS of all vats, what was fed, brought and given, is what is in vats, was used, was lost ..". */
    private static void partsAreAll() {
        String text = "good w 3;good v 1;work a;takes a w 2 20 13;takes a v 1 2 2;gives a v 9;feeds a w 1;feeds a v 1;work b 4 9;takes b v 9 99 7;takes b w 1 1 1;"
            + "gives b w 9;gives b v 1;work c;takes c w 9 30 30;gives c w 8;";
        for (String ring : new String[] {"", "joined;"}) {
            WasteBrook x = begun(text + ring);
            Check.plan(x, "brings a w 99 1;brings c w 2 7;stops a 20 25;stops b 5 5;brings b v 99 60;brings b v 99 60;");
            for (int hour = 0; hour <= 200; hour += 25) {
                for (int g = 0; g < 2; g++) {
                    int came = (g == 0 ? 13 + 1 + 30 : 2 + 7) + x.parts(g, 0) + x.parts(g, 1) + x.parts(g, 2);
                    int is = x.parts(g, 3) + x.parts(g, 4) + x.parts(g, 5) + x.parts(g, 6) + x.parts(g, 7);
                    CHECK.eq("PARTS of " + g + " behind " + hour + ring, is, came);
                    CHECK.eq("in vats", x.parts(g, 6), g == 0 ? x.vat(0, 0) + x.vat(1, 0) + x.vat(2, 0) : x.vat(0, 1) + x.vat(1, 1));
                }
                x.on(25);
            }
            CHECK.eq("brought", x.parts(0, 1) * 1000 + x.parts(1, 1), 101198);
        }
    }

    /** FOUND: "what is mixed in a STREAM or a vat has all marks of what was mixed, till it is empty". */
    private static void foundTillItIsEmpty() {
        // a gives 2 in HOUR 0; b uses 1 a HOUR and is fed 1 a HOUR; its vat is never empty, once it has 2
        WasteBrook never = begun("good w 0;work a 0 0;gives a w 2;work b;takes b w 1 9 0;feeds b w 1;gives b w 1;work c 3 3;takes c w 1 1 0;");
        never.on(4);
        CHECK.eq("c finds a in what is left", never.went(2, 3), 3);
        // a gives 1 in HOUR 0: b's vat has 1 of it and 1 that is fed, uses both, and is empty
        WasteBrook empty = begun("good w 0;good v 0;work a 0 0;gives a w 1;work b;takes b w 2 9 0;feeds b w 1;gives b v 1;work c 2 3;takes c v 1 1 0;work d 0 0;takes d v 1 1 0;");
        empty.on(1);
        CHECK.eq("b found a", empty.went(1, 3), 1);
        CHECK.eq("c's vat took it first", empty.comes(2, 1), 2);
        empty.on(3);
        CHECK.eq("c found both in HOUR 2", empty.went(2, 3), 3);
        empty.on(9);
        CHECK.eq("d found b alone in what b gave in HOUR 2", empty.went(3, 3), 2);
        // the STREAM of w is empty below b, so what c gives has c's mark alone
        WasteBrook stream = begun("good w 0;work a;gives a w 1;work b 11 11;takes b w 1 99 0;work c;gives c w 1;work d;takes d w 1 1 0;");
        stream.on(3);
        CHECK.eq("d found c alone", stream.went(3, 3), 4);
        CHECK.eq("and it came from c alone", stream.comes(3, 0), 4);
        // with 1 left in the STREAM below b it has a's, too
        WasteBrook left = begun("good w 0;work a;gives a w 2;work b 11 11;takes b w 1 1 0;work c;gives c w 1;work d;takes d w 1 1 0;");
        left.on(1);
        CHECK.eq("d found a and c", left.went(3, 3), 5);
        CHECK.eq("and it came from both", left.comes(3, 0), 5);
        // all lost on the way, or all but 1
        for (int given = 3; given <= 4; given++) {
            WasteBrook lost = begun("good w 3;work a;gives a w " + given + ";work b;feeds b w 5;work d;takes d w 1 1 0;");
            lost.on(1);
            CHECK.eq("of " + given + " with a LOSS of 3", lost.went(2, 3), given == 3 ? 0 : 1);
            CHECK.eq("it came so, too", lost.comes(2, 0), given == 3 ? 0 : 1);
        }
    }

    /** FOUND: "a vat that is filled with nothing keeps its marks while there is some in it". */
    private static void foundInAVatFilledWithNothing() {
        WasteBrook x = begun("good w 0;good v 0;work a 0 0;gives a w 3;work b;takes b w 1 9 0;gives b v 1;work c;takes c v 1 1 0;");
        x.on(1);
        CHECK.eq("2 are left", x.vat(1, 0), 2);
        x.on(1);
        CHECK.eq("c found a in the second HOUR", x.went(2, 3), 3);
        x.on(1);
        CHECK.eq("and b went a third time", x.went(1, 0), 3);
        Check.plan(x, "brings b w 1 3;");
        x.on(1);
        CHECK.eq("what is brought to the empty vat is used", x.went(1, 0), 4);
        WasteBrook y = begun("good w 0;good v 0;work a 0 0;gives a w 1;work b;takes b w 1 9 0;gives b v 1;work c 1 1;takes c v 1 1 1;work d 1 1;takes d v 1 1 0;");
        Check.plan(y, "brings b w 1 1;");
        y.on(2);
        CHECK.eq("d found a in what came in HOUR 0", y.went(3, 3), 3);
        WasteBrook z = begun("good w 0;good v 0;work a 0 0;gives a w 1;work b;takes b w 1 9 0;gives b v 1;work c 0 1;takes c v 1 1 0;work d;takes d w 9 9 0;");
        Check.plan(z, "brings b w 1 1;stops c 0 0;stops b 0 0;brings c v 1 0;");
        z.on(2);
        CHECK.eq("b: a in its vat, to which was brought", z.went(1, 3), 1);
    }

    /** FOUND: "keeps its marks while there is some in it": seen by c, whose vat has room for what b gives late, and for nothing ahead of it. */
    private static void foundInWhatIsGivenLater() {
        String ahead = "good w 0;good v 0;work a 0 0;gives a w GIVEN;work b;takes b w 1 9 0;gives b v 1;";
        WasteBrook some = begun(ahead.replace("GIVEN", "2") + "work c;takes c v 1 1 1;");
        some.on(1);
        CHECK.eq("c went by what it had", some.went(2, 0) * 10 + some.went(2, 3), 10);
        CHECK.eq("1 is left in b's vat", some.vat(1, 0), 1);
        some.on(1);
        CHECK.eq("c found a, too, in what b gave of it", some.went(2, 3), 3);
        WasteBrook none = begun(ahead.replace("GIVEN", "1") + "work c;takes c v 1 1 1;");
        Check.plan(none, "brings b w 1 1;");
        none.on(2);
        CHECK.eq("b's vat was empty ahead of what was brought", none.went(1, 0), 2);
        CHECK.eq("c found b alone", none.went(2, 3), 2);
        WasteBrook fed = begun(ahead.replace("GIVEN", "1") + "feeds b w 1;work c 9 10;takes c v 1 1 1;");
        fed.on(10);
        CHECK.eq("c had what has no marks till HOUR 9", fed.went(2, 3), 0);
        fed.on(1);
        CHECK.eq("b's vat was never empty in 10 HOURS", fed.went(2, 3), 3);
        WasteBrook once = begun(ahead.replace("GIVEN", "1") + "feeds b w 1;work c 9 10;takes c v 1 1 1;");
        Check.plan(once, "stops a 0 0;");
        once.on(11);
        CHECK.eq("c found b alone, as a stood", once.went(2, 3), 2);
    }

    /** FOUND: "all marks of what was mixed": a mark that is there already is no less there when it comes again. */
    private static void foundInWhatHasTheMarkAlready() {
        WasteBrook two = begun("good w 0;good v 0;work a;gives a w 1;gives a v 1;work b;takes b w 1 1 0;takes b v 1 1 0;gives b w 1;work c;takes c w 1 1 0;");
        two.on(1);
        CHECK.eq("b found a in both", two.went(1, 3), 1);
        CHECK.eq("c found both", two.went(2, 3), 3);
        // what a gave in HOUR 0 passes a in HOUR 1, when it gives again
        WasteBrook stream = begun("good w 0;work a;gives a w 1;work b 0 1;takes b w 1 1 1;joined;");
        stream.on(1);
        CHECK.eq("b went by what it had", stream.went(1, 0) * 10 + stream.went(1, 3), 10);
        stream.on(1);
        CHECK.eq("b found a", stream.went(1, 3), 1);
        CHECK.eq("from which it came", stream.comes(1, 0), 1);
        // a uses in HOUR 1 what it gave in HOUR 0
        WasteBrook own = begun("good w 0;work a;takes a w 1 1 1;gives a w 1;work b;takes b w 1 1 1;joined;");
        own.on(1);
        CHECK.eq("nobody is found in what was had", own.went(0, 3) + own.went(1, 3), 0);
        own.on(1);
        CHECK.eq("a found itself", own.went(0, 3), 1);
        CHECK.eq("b found a", own.went(1, 3), 1);
        // b's vat takes what a gave in two HOURS
        WasteBrook vat = begun("good w 0;good v 0;work a;gives a w 1;work b 1 1;takes b w 2 9 0;gives b v 1;work c;takes c v 1 1 0;");
        vat.on(2);
        CHECK.eq("c found a and b", vat.went(2, 3), 3);
    }

    /** FOUND: what is on its way to the top keeps its marks; what is lost of it whole has none. */
    private static void foundOnTheWayToTheTop() {
        for (int given = 2; given <= 4; given++) {
            WasteBrook x = begun("good w 1;work a 1 11;takes a w 1 1 0;feeds a w 1;work b 0 0;gives b w " + given + ";work c;joined;");
            x.on(1);
            CHECK.eq("on its way", x.parts(0, 7), given - 1);
            x.on(1);
            CHECK.eq("a found b", x.went(0, 3), 0);
            CHECK.eq("its vat was filled in HOUR 0", x.comes(0, 0), 0);
            WasteBrook y = begun("good w 1;work a 1 11;takes a w 1 2 0;feeds a w 1;work b 0 0;gives b w " + given + ";work c;joined;");
            y.on(2);
            CHECK.eq("with room for 1 more: of " + given, y.went(0, 3), given > 2 ? 2 : 0);
            CHECK.eq("and it came from b", y.comes(0, 0), given > 2 ? 2 : 0);
        }
    }

    /** FOUND: "what is fed, brought, had at first has none". */
    private static void foundNoneInWhatWasFedBroughtHad() {
        WasteBrook fed = begun("good w 0;work a;takes a w 1 9 0;feeds a w 1;");
        WasteBrook had = begun("good w 0;work a;takes a w 1 9 9;");
        WasteBrook brought = begun("good w 0;work a;takes a w 1 9 0;");
        Check.plan(brought, "brings a w 9 0;");
        for (WasteBrook x : new WasteBrook[] {fed, had, brought}) {
            x.on(3);
            CHECK.eq("it went", x.went(0, 0), 3);
            CHECK.eq("and found none", x.went(0, 3), 0);
            CHECK.eq("nor did it come from any", x.comes(0, 0), 0);
        }
        // a's in HOUR 0, b's in HOUR 1, none later on
        WasteBrook soFar = begun("good w 0;work a 0 0;gives a w 1;work b 1 1;gives b w 1;work c;takes c w 1 1 0;");
        soFar.on(1);
        CHECK.eq("a", soFar.went(2, 3), 1);
        soFar.on(1);
        CHECK.eq("so far: a and b", soFar.went(2, 3), 3);
        soFar.on(8);
        CHECK.eq("so far", soFar.went(2, 3), 3);
        WasteBrook own = begun("good w 0;work a;takes a w 1 9 1;gives a w 1;joined;");
        own.on(1);
        CHECK.eq("its own has not come yet", own.went(0, 3), 0);
        own.on(1);
        CHECK.eq("it finds itself", own.went(0, 3), 1);
        CHECK.eq("it comes from itself", own.comes(0, 0), 1);
    }

    /** "COMES to a vat: those WORKS whose waste it took, as they gave it (not what was in theirs), so far". */
    private static void comesAsTheyGaveIt() {
        WasteBrook x = begun("good w 0;good v 0;work a;gives a w 1;work b;takes b w 1 1 0;gives b v 1;work c;takes c v 1 1 0;");
        x.on(1);
        CHECK.eq("b's vat has a's", x.comes(1, 0), 1);
        CHECK.eq("c's vat has b's alone", x.comes(2, 1), 2);
        CHECK.eq("though c found both", x.went(2, 3), 3);
        WasteBrook soFar = begun("good w 0;work a 0 0;gives a w 1;work b;takes b w 1 1 0;");
        soFar.on(12);
        CHECK.eq("so far, though the vat was emptied long since", soFar.comes(1, 0), 1);
        WasteBrook full = begun("good w 0;work a;gives a w 1;work b 11 11;takes b w 1 1 1;");
        full.on(11);
        CHECK.eq("a full vat takes nothing", full.comes(1, 0), 0);
        full.on(2);
        CHECK.eq("till there is room", full.comes(1, 0), 1);
    }

    /** "LACKS ...: HOURS in which its hours were so, and no PLAN stopped it, but a vat of a GOOD had less than N". */
    private static void lacksLessThanN() {
        for (int has = 2; has <= 4; has++) {
            WasteBrook x = begun("good w 0;work a 2 3;takes a w 3 9 " + has + ";");
            x.on(2);
            CHECK.eq("ahead of FROM", x.lacks(0, 0), 0);
            x.on(1);
            CHECK.eq("at FROM with " + has, x.lacks(0, 0), has < 3 ? 1 : 0);
            x.on(1);
            CHECK.eq("at TILL", x.lacks(0, 0), has < 3 ? 2 : 1);
            x.on(1);
            CHECK.eq("behind TILL", x.lacks(0, 0), has < 3 ? 2 : 1);
        }
        WasteBrook stopped = begun("good w 0;work a;takes a w 1 1 0;");
        Check.plan(stopped, "stops a 1 2;");
        int[] lacks = {1, 1, 1, 2};
        for (int hour = 0; hour < 4; hour++) {
            stopped.on(1);
            CHECK.eq("behind HOUR " + hour, stopped.lacks(0, 0), lacks[hour]);
        }
        WasteBrook late = begun("good w 0;work a;takes a w 1 1 0;feeds a w 1;");
        late.on(5);
        CHECK.eq("what comes in the HOUR itself is had", late.lacks(0, 0), 0);
    }

    /** Promise 9: "false: there are no WORKS": none, and one. */
    private static void promise9FalseThereAreNoWorks() {
        for (String text : new String[] {"", "good g 0;", "joined;"}) {
            WasteBrook x = Check.of(text);
            CHECK.no("begin() of " + text, x.begin());
            CHECK.eq("no RUN", x.hour(), -1);
            CHECK.eq("no RUN", x.on(0), -1);
            CHECK.eq("no RUN", x.made(), -1);
            Check.brook(x, text + "work a;");
            CHECK.yes("begin() with one", x.begin());
            CHECK.eq("a RUN", x.hour(), 0);
        }
    }

    /** Promise 9: "A RUN begins: true": also where one is, at its end or without an HOUR. */
    private static void promise9ARunBegins() {
        WasteBrook x = begun("good w 0;work a;takes a w 1 9 9;makes a 1;");
        for (int hours : new int[] {0, 1, 199, 200}) {
            CHECK.yes("begin()", x.begin());
            CHECK.eq("HOURS", x.hour(), 0);
            CHECK.eq("made", x.made(), 0);
            CHECK.eq("HAS", x.vat(0, 0), 9);
            CHECK.eq("latest", x.went(0, 4), -1);
            x.on(hours);
        }
        Check.plan(x, "stops a 0 0;");
        x.begin();
        CHECK.eq("the PLAN stays", x.count(6), 1);
        WasteBrook anew = begun("good w 0;work a 0 0;gives a w 2;work b 1 11;takes b w 1 3 1;");
        anew.on(2);
        CHECK.eq("b found a", anew.went(1, 3) * 10 + anew.comes(1, 0), 11);
        anew.begin();
        CHECK.eq("it came from none yet", anew.comes(1, 0), 0);
        Check.plan(anew, "stops a 0 0;");
        anew.on(2);
        CHECK.eq("what is had has no marks", anew.went(1, 0) * 10 + anew.went(1, 3), 10);
        WasteBrook ring = begun("good w 0;work a;gives a w 1;joined;");
        ring.on(9);
        Check.brook(ring, "good w 0;work b;takes b w 1 9 0;feeds b w 1;");
        ring.begin();
        ring.on(2);
        CHECK.eq("nothing is left of what was on its way: b went", ring.went(0, 0), 2);
        CHECK.eq("and found none", ring.went(0, 3), 0);
        CHECK.eq("it came from none", ring.comes(0, 0), 0);
    }

    /** Promise 10: "by so many HOURS (0 to 200": -1, 0, 1, 199, 200, 201. */
    private static void promise10From0To200() {
        int[][] rows = {{-1, -1}, {0, 0}, {1, 1}, {2, 2}, {199, 199}, {200, 200}, {201, -1}, {LARGEST, -1}, {LEAST, -1}};
        for (int[] row : rows) {
            WasteBrook x = begun("work a;");
            CHECK.eq("on(" + row[0] + ")", x.on(row[0]), row[1]);
            CHECK.eq("hour()", x.hour(), Math.max(0, row[1]));
            CHECK.eq("went", x.went(0, 0), Math.max(0, row[1]));
        }
    }

    /** Promise 10: "199 is the last one": on(1) at 198, 199 and 200 HOURS done, on(200) at 0, 1, 199 and 200. */
    private static void promise10TheLastHourIs199() {
        WasteBrook x = begun("work a;");
        x.on(198);
        CHECK.eq("HOUR 198", x.on(1), 1);
        CHECK.eq("is the latest", x.went(0, 4), 198);
        CHECK.eq("HOUR 199", x.on(1), 1);
        CHECK.eq("is the latest", x.went(0, 4), 199);
        CHECK.eq("there is no HOUR 200", x.on(1), 0);
        CHECK.eq("200 are done", x.hour(), 200);
        CHECK.eq("on(0)", x.on(0), 0);
        CHECK.eq("on(200)", x.on(200), 0);
        CHECK.eq("on(201)", x.on(201), -1);
        CHECK.eq("still 199", x.went(0, 4), 199);
        CHECK.eq("went in it", x.went(0, 5), 1);
        for (int done : new int[] {0, 1, 198, 199, 200}) {
            WasteBrook y = begun("work a;");
            y.on(done);
            CHECK.eq("on(200) behind " + done, y.on(200), 200 - done);
            WasteBrook z = begun("work a;");
            z.on(done);
            CHECK.eq("on(2) behind " + done, z.on(2), Math.min(2, 200 - done));
        }
    }

    /** Promise 10: "by the PLAN as it is": one told between two HOURS counts from the next on, one with a FAULT does not. */
    private static void promise10ByThePlanAsItIs() {
        WasteBrook x = begun("work a;");
        x.on(1);
        Check.plan(x, "stops a 0 5;");
        CHECK.eq("HOUR 0 is done", x.went(0, 0), 1);
        x.on(1);
        CHECK.eq("it stands in HOUR 1", x.went(0, 5), 0);
        Check.plan(x, "stops a 3 3;?");
        x.on(1);
        CHECK.eq("still in HOUR 2", x.went(0, 5), 0);
        Check.plan(x, "stops a 4 4;");
        x.on(1);
        CHECK.eq("it goes in HOUR 3", x.went(0, 5), 1);
        x.on(1);
        CHECK.eq("not in HOUR 4", x.went(0, 5), 0);
    }

    /** Promise 10: "NONE: not as told, no RUN". */
    private static void promise10NoneNotAsTold() {
        for (int hours : new int[] {-1, 201, LEAST, LARGEST}) {
            Twin.same(CHECK, "on(" + hours + ")", t -> t.on(hours), -1);
        }
        Twin.same(CHECK, "on(0)", t -> t.on(0), 0);
        WasteBrook x = Check.of("work a;");
        for (int hours : new int[] {-1, 0, 1, 200, 201}) {
            CHECK.eq("on(" + hours + ") without a RUN", x.on(hours), -1);
        }
        CHECK.eq("no RUN by it", x.hour(), -1);
    }

    /** Promise 11: "HOURS done of the RUN; NONE: no RUN": none, 0, 1, 199, 200. */
    private static void promise11Hour() {
        WasteBrook x = Check.of("work a;");
        CHECK.eq("no RUN", x.hour(), -1);
        x.begin();
        CHECK.eq("0", x.hour(), 0);
        x.on(1);
        CHECK.eq("1", x.hour(), 1);
        x.on(198);
        CHECK.eq("199", x.hour(), 199);
        x.on(1);
        CHECK.eq("200", x.hour(), 200);
        Twin.same(CHECK, "hour()", t -> t.hour(), 5);
    }

    /** Promise 12: "What is in the vat": none, SIZE, of the first WORK and GOOD and of the last. */
    private static void promise12Vat() {
        WasteBrook x = begun("good a 0;good b 0;good c 0;good d 0;good e 0;good f 0;work p;takes p a 1 1 0;work q;work r;work s;work t;work u;work v;work w 11 11;takes w f 9 99 98;feeds w f 1;");
        CHECK.eq("the first", x.vat(0, 0), 0);
        CHECK.eq("the last", x.vat(7, 5), 98);
        x.on(1);
        CHECK.eq("at its SIZE", x.vat(7, 5), 99);
        x.on(1);
        CHECK.eq("no more", x.vat(7, 5), 99);
        CHECK.eq("none next to it", x.vat(7, 4), -1);
        CHECK.eq("none next to it", x.vat(6, 5), -1);
        CHECK.eq("WORK 8", x.vat(8, 5), -1);
        CHECK.eq("GOOD 6", x.vat(7, 6), -1);
    }

    /** Promise 12: "NONE: no such one (it does not take it), no RUN". */
    private static void promise12None() {
        int[][] none = {{0, 0}, {0, 1}, {1, 1}, {1, 2}, {1, -1}, {2, 0}, {-1, 0}, {LEAST, 0}, {LARGEST, 0}, {1, LEAST}, {1, LARGEST}};
        for (int[] row : none) {
            Twin.same(CHECK, "vat(" + row[0] + ", " + row[1] + ")", t -> t.vat(row[0], row[1]), -1);
        }
        WasteBrook x = Check.of("good w 0;work a;takes a w 1 9 5;");
        CHECK.eq("no RUN", x.vat(0, 0), -1);
        x.begin();
        CHECK.eq("with one", x.vat(0, 0), 5);
        x.brook();
        CHECK.eq("no RUN any more", x.vat(0, 0), -1);
    }

    /** Promise 13: what 0 to 5, of who goes always and of who never does, at 0, 1 and 200 HOURS. */
    private static void promise13OfAWork() {
        WasteBrook x = begun("good w 0;work a;gives a w 1;makes a 99;work b;takes b w 1 1 0;work c;takes c w 9 9 8;makes c 99;");
        int[][] at = {{0, 0, 0, 0, -1, 0}, {1, 0, 99, 0, 0, 1}, {200, 0, 19800, 0, 199, 1}};
        int[][] third = {{0, 0, 0, 0, -1, 0}, {0, 1, 0, 0, -1, 0}, {0, 200, 0, 0, -1, 0}};
        int[] hours = {0, 1, 199};
        for (int i = 0; i < 3; i++) {
            x.on(hours[i]);
            for (int what = 0; what < 6; what++) {
                CHECK.eq("went(0, " + what + ")", x.went(0, what), at[i][what]);
                CHECK.eq("went(1, " + what + ")", x.went(1, what), what == 2 ? 0 : what == 3 && i > 0 ? 1 : at[i][what]);
                CHECK.eq("went(2, " + what + ")", x.went(2, what), third[i][what]);
            }
        }
    }

    /** Promise 13: "4 the latest HOUR in which it went (NONE), 5 whether it went in the latest HOUR (1, 0)". */
    private static void promise13TheLatestHour() {
        WasteBrook x = begun("work a 1 1;");
        int[] latest = {-1, -1, 1, 1, 1};
        for (int done = 0; done < 5; done++) {
            CHECK.eq("the latest behind " + done, x.went(0, 4), latest[done]);
            CHECK.eq("whether in it", x.went(0, 5), done == 2 ? 1 : 0);
            x.on(1);
        }
        WasteBrook first = begun("work a 0 0;");
        CHECK.eq("no HOUR yet", first.went(0, 4) * 10 + first.went(0, 5), -10);
        first.on(1);
        CHECK.eq("HOUR 0", first.went(0, 4) * 10 + first.went(0, 5), 1);
        first.on(1);
        CHECK.eq("HOUR 0 still, not now", first.went(0, 4) * 10 + first.went(0, 5), 0);
        first.on(11);
        CHECK.eq("HOUR 12", first.went(0, 4) * 10 + first.went(0, 5), 121);
    }

    /** Promise 13: "NONE: no such ones, no RUN". */
    private static void promise13None() {
        for (int i : new int[] {-1, 2, 8, LEAST, LARGEST}) {
            Twin.same(CHECK, "went(" + i + ", 0)", t -> t.went(i, 0), -1);
        }
        for (int what : new int[] {-1, 6, 7, LEAST, LARGEST}) {
            Twin.same(CHECK, "went(0, " + what + ")", t -> t.went(0, what), -1);
        }
        WasteBrook x = Check.of("work a;work b;work c;work d;work e;work f;work g;work h;");
        for (int what = 0; what < 6; what++) {
            CHECK.eq("no RUN", x.went(0, what), -1);
        }
        x.begin();
        CHECK.eq("WORK 7", x.went(7, 0), 0);
        CHECK.eq("WORK 8", x.went(8, 0), -1);
    }

    /** Promise 14: what 0 to 7, each by itself, and at the most that can be. */
    private static void promise14OfAGood() {
        String[] brooks = {"work a;feeds a g 9;", "work a 11 11;takes a g 1 99 0;", "work a;gives a g 9;", "work a;takes a g 9 99 99;",
            "work a;feeds a g 9;work b;", "work a;gives a g 9;", "work a 11 11;takes a g 1 99 99;", "work a;gives a g 9;joined;"};
        int[][] want = {{18, 0, 0, 0, 0, 18, 0, 0}, {0, 198, 0, 0, 99, 0, 99, 0}, {0, 0, 18, 0, 0, 18, 0, 0}, {0, 0, 0, 18, 0, 0, 81, 0},
            {18, 0, 0, 0, 18, 0, 0, 0}, {0, 0, 18, 0, 0, 18, 0, 0}, {0, 0, 0, 0, 0, 0, 99, 0}, {0, 0, 18, 0, 0, 0, 0, 18}};
        for (int i = 0; i < 8; i++) {
            WasteBrook x = begun("good g " + (i == 4 ? 9 : 0) + ";" + brooks[i]);
            if (i == 1) {
                Check.plan(x, "brings a g 99 0;brings a g 99 1;");
            }
            for (int what = 0; what < 8; what++) {
                CHECK.eq("parts(0, " + what + ") at first", x.parts(0, what), what != 6 ? 0 : i == 3 || i == 6 ? 99 : 0);
            }
            x.on(2);
            for (int what = 0; what < 8; what++) {
                CHECK.eq("parts(0, " + what + ") of " + brooks[i], x.parts(0, what), want[i][what]);
            }
        }
        StringBuilder b = new StringBuilder("good g 0;");
        for (char w = 'a'; w < 'i'; w++) {
            b.append("work ").append(w).append("x;feeds ").append(w).append("x g 9;gives ").append(w).append("x g 9;");
        }
        WasteBrook most = begun(b + "joined;");
        most.on(200);
        CHECK.eq("fed", most.parts(0, 0), 14400);
        CHECK.eq("given", most.parts(0, 2), 14400);
        CHECK.eq("on its way", most.parts(0, 7), 28800);
    }

    /** Promise 14: "NONE: no such ones, no RUN". */
    private static void promise14None() {
        for (int g : new int[] {-1, 2, 6, LEAST, LARGEST}) {
            Twin.same(CHECK, "parts(" + g + ", 0)", t -> t.parts(g, 0), -1);
        }
        for (int what : new int[] {-1, 8, 9, LEAST, LARGEST}) {
            Twin.same(CHECK, "parts(0, " + what + ")", t -> t.parts(0, what), -1);
            Twin.same(CHECK, "parts(1, " + what + ")", t -> t.parts(1, what), -1);
        }
        WasteBrook x = Check.of("good a 0;good b 0;good c 0;good d 0;good e 0;good f 0;work w;");
        for (int what = 0; what < 8; what++) {
            CHECK.eq("no RUN", x.parts(0, what), -1);
        }
        x.begin();
        CHECK.eq("GOOD 5", x.parts(5, 7), 0);
        CHECK.eq("GOOD 6", x.parts(6, 0), -1);
    }

    /** Promise 15: "COMES to the vat ... as bits": none, the first WORK, the last, all. */
    private static void promise15Comes() {
        StringBuilder b = new StringBuilder("good x 0;");
        for (int w = 0; w < 8; w++) {
            char name = (char) ('a' + w);
            b.append("work ").append(name).append(' ').append(w).append(' ').append(w).append(";gives ").append(name).append(" x 1;takes ").append(name).append(" x 1 99 1;");
        }
        WasteBrook x = begun(b + "joined;");
        CHECK.eq("none", x.comes(0, 0), 0);
        x.on(1);
        CHECK.eq("a's came to b", x.comes(1, 0), 1);
        CHECK.eq("not to c", x.comes(2, 0), 0);
        x.on(199);
        int all = 0;
        for (int w = 0; w < 8; w++) {
            all |= x.comes(w, 0);
        }
        CHECK.eq("each came somewhere", all, 255);
        WasteBrook mixed = begun("good g 0;work a;gives a g 1;work b;gives b g 1;work c;gives c g 1;work d;gives d g 1;work e;gives e g 1;work f;gives f g 1;work h;gives h g 1;"
            + "work i;gives i g 1;takes i g 1 1 1;joined;");
        mixed.on(2);
        CHECK.eq("all eight, its own by the ring", mixed.comes(7, 0), 255);
    }

    /** Promise 15: "NONE as for vat()". */
    private static void promise15None() {
        int[][] none = {{0, 0}, {0, 1}, {1, 1}, {1, 2}, {1, -1}, {2, 0}, {-1, 0}, {LEAST, 0}, {LARGEST, 0}, {1, LEAST}, {1, LARGEST}};
        for (int[] row : none) {
            Twin.same(CHECK, "comes(" + row[0] + ", " + row[1] + ")", t -> t.comes(row[0], row[1]), -1);
        }
        WasteBrook x = Check.of("good w 0;work a;takes a w 1 9 5;");
        CHECK.eq("no RUN", x.comes(0, 0), -1);
        x.begin();
        CHECK.eq("with one", x.comes(0, 0), 0);
    }

    /** Promise 16: LACKS from none to 200. */
    private static void promise16Lacks() {
        WasteBrook x = begun("good w 0;good v 0;work a;takes a w 1 9 0;takes a v 9 9 9;work b;takes b w 1 1 1;");
        CHECK.eq("none", x.lacks(0, 0), 0);
        x.on(1);
        CHECK.eq("1 of w", x.lacks(0, 0), 1);
        CHECK.eq("none of v", x.lacks(0, 1), 0);
        CHECK.eq("b had", x.lacks(1, 0), 0);
        x.on(199);
        CHECK.eq("200 of w", x.lacks(0, 0), 200);
        CHECK.eq("none of v", x.lacks(0, 1), 0);
        CHECK.eq("b in all but the first", x.lacks(1, 0), 199);
        x.on(1);
        CHECK.eq("no more", x.lacks(0, 0), 200);
    }

    /** Promise 16: "NONE as for vat()". */
    private static void promise16None() {
        int[][] none = {{0, 0}, {0, 1}, {1, 1}, {1, 2}, {1, -1}, {2, 0}, {-1, 0}, {LEAST, 0}, {LARGEST, 0}, {1, LEAST}, {1, LARGEST}};
        for (int[] row : none) {
            Twin.same(CHECK, "lacks(" + row[0] + ", " + row[1] + ")", t -> t.lacks(row[0], row[1]), -1);
        }
        WasteBrook x = Check.of("good w 0;work a;takes a w 1 9 5;");
        CHECK.eq("no RUN", x.lacks(0, 0), -1);
        x.begin();
        CHECK.eq("with one", x.lacks(0, 0), 0);
    }

    /** Promise 19: "What all made in the RUN; NONE: no RUN": nothing, and the most. */
    private static void promise19Made() {
        StringBuilder b = new StringBuilder();
        for (char w = 'a'; w < 'i'; w++) {
            b.append("work ").append(w).append(";makes ").append(w).append(" 99;");
        }
        WasteBrook x = Check.of(b.toString());
        CHECK.eq("no RUN", x.made(), -1);
        x.begin();
        CHECK.eq("nothing yet", x.made(), 0);
        x.on(1);
        CHECK.eq("by all in one HOUR", x.made(), 792);
        x.on(199);
        CHECK.eq("by all in 200", x.made(), 158400);
        WasteBrook nothing = begun("work a;");
        nothing.on(200);
        CHECK.eq("who makes nothing", nothing.made(), 0);
        x.brook();
        CHECK.eq("no RUN any more", x.made(), -1);
        Twin.same(CHECK, "made()", t -> t.made(), 5 * 7 + 4 * 2);
    }

    /** Promises 12 to 16 of the last WORK and the last GOOD there can be, and of a STREAM larger than the largest vat. */
    private static void sixGoodsAndEightWorks() {
        StringBuilder b = new StringBuilder("good a 0;good b 0;good c 0;good d 0;good e 0;good f LOSS;work p;work q;work r;work s;work t;work u;work v;work w;");
        for (char w = 'p'; w < 'x'; w++) {
            b.append("gives ").append(w).append(" f 9;feeds ").append(w).append(" f 9;");
        }
        String all = b.append("takes w f 9 99 0;makes w 99;joined;").toString();
        // p to v are fed 63 and give 63, w is fed 9: of 135 its vat takes 99 and w uses 9
        WasteBrook x = begun(all.replace("LOSS", "0"));
        x.on(1);
        partsOf(x, new int[] {72, 0, 72, 9, 0, 0, 90, 45});
        lastWork(x, new int[] {90, 127, 0, 1, 0, 99, 127, 0, 1});
        x.on(1);
        partsOf(x, new int[] {144, 0, 144, 18, 0, 0, 90, 180});
        lastWork(x, new int[] {90, 255, 0, 2, 0, 198, 255, 1, 1});
        // 9 are lost below each of p to v: of 72 the vat takes all
        WasteBrook lost = begun(all.replace("LOSS", "9"));
        lost.on(1);
        partsOf(lost, new int[] {72, 0, 72, 9, 63, 0, 63, 9});
        lastWork(lost, new int[] {63, 127, 0, 1, 0, 99, 127, 0, 1});
        WasteBrook out = begun(all.replace("LOSS", "0").replace("joined;", ""));
        out.on(2);
        partsOf(out, new int[] {144, 0, 144, 18, 0, 45 + 135, 90, 0});
        lastWork(out, new int[] {90, 127, 0, 2, 0, 198, 127, 1, 1});
        // what w gives is lost at the top, and its mark with it; what p is fed has none
        WasteBrook marks = begun("good f 1;work p;feeds p f 1;takes p f 1 9 0;work q;work r;work s;work t;work u;work v;work w;gives w f 1;joined;");
        marks.on(200);
        CHECK.eq("p goes by what it is fed", marks.went(0, 0), 200);
        CHECK.eq("and finds nobody", marks.went(0, 3), 0);
        WasteBrook ring = begun("good f 0;work p;takes p f 1 9 0;work q;work r;work s;work t;work u;work v;work w;gives w f 1;joined;");
        ring.on(3);
        CHECK.eq("p goes by what w gives", ring.went(0, 0), 2);
        CHECK.eq("and finds w", ring.went(0, 3), 128);
        CHECK.eq("whose waste comes to it", ring.comes(0, 0), 128);
        CHECK.eq("and was lacking in HOUR 0", ring.lacks(0, 0), 1);
    }

    private static void partsOf(WasteBrook x, int[] due) {
        for (int what = 0; what < 8; what++) {
            CHECK.eq("parts(5, " + what + ") behind " + x.hour(), x.parts(5, what), due[what]);
            CHECK.eq("parts(4, " + what + ")", x.parts(4, what), 0);
        }
    }

    private static void lastWork(WasteBrook x, int[] due) {
        int[] got = {x.vat(7, 5), x.comes(7, 5), x.lacks(7, 5), x.went(7, 0), x.went(7, 1), x.went(7, 2), x.went(7, 3), x.went(7, 4), x.went(7, 5)};
        for (int i = 0; i < due.length; i++) {
            CHECK.eq("of WORK 7 the answer " + i + " behind " + x.hour(), got[i], due[i]);
        }
    }
}
