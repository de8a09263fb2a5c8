/** Promises 22 to 31, sets of WORKS: each sentence that names a boundary. */
public final class EdgeSetsTest {
    private static final Check CHECK = new Check();
    private static final int LEAST = Integer.MIN_VALUE;
    private static final int LARGEST = Integer.MAX_VALUE;
    private static final int[] NO_SETS = {-1, 4, 8, 256, LEAST, LARGEST};
    private static final int[] NO_HOURS = {-1, 0, 201, LEAST, LARGEST};
    private static final String EIGHT = "work a;makes a 1;work b;makes b 2;work c;makes c 4;work d;makes d 8;work e;makes e 16;work f;makes f 32;work g;makes g 64;work h;makes h 99;";
    /** In one HOUR a makes 1; b makes 2 by what a gives. */
    private static final String PAIR = "good w 0;work a;gives a w 1;makes a 1;work b;takes b w 1 1 0;makes b 2;";

    private EdgeSetsTest() {
    }

    public static void main(String[] args) {
        promise22SetsFromNoneToAll();
        promise22HoursFrom1To200();
        promise22AllOthersStand();
        promise22None();
        promise23WhatIsLess();
        promise23HoursFrom1To200();
        promise23None();
        promise24HoursFrom1To200();
        promise24NoneNoWorks();
        promise25ByAllOrders();
        promise25LeastNumbers();
        promise25ZeroByOne();
        promise25ByTheLatestThatWasNotNone();
        promise25NoSuchOnes();
        promise25AheadOfAny();
        promise26TheyAre();
        promise26TheLeastSet();
        promise26TwoBytesForEachWork();
        promise26HoursFrom1To200();
        promise26NotAsTold();
        promise27EachHasWhatItTakes();
        promise27HoursSizesHasAndJoinedCountNothing();
        promise27FedThereToo();
        promise27WhoIsNoneOfThemTakesNothing();
        promise27None();
        promise28HowMany();
        promise28TheKth();
        promise28None();
        promise29TheMostOfThem();
        promise29OfLikeOnesTheLeast();
        promise29None();
        promise30WhoFalls();
        promise30NotOfIt();
        promise30None();
        promise31TheFewest();
        promise31NinetyNineAtMost();
        promise31OfLikeOnesTheLesserGood();
        promise31ToItsFirstWorkBesides();
        promise31ZeroItIsSteady();
        promise31None();
        sixGoodsAndEightWorks();
        CHECK.close("EdgeSetsTest");
    }

    /** Promise 22: "a set of WORKS (bits)": none, each alone, all; one more than all is none. */
    private static void promise22SetsFromNoneToAll() {
        WasteBrook x = Check.of(EIGHT);
        int[] makes = {1, 2, 4, 8, 16, 32, 64, 99};
        CHECK.eq("none", x.by(0, 200), 0);
        for (int w = 0; w < 8; w++) {
            CHECK.eq("WORK " + w, x.by(1 << w, 3), 3 * makes[w]);
            CHECK.eq("all but it", x.by(255 - (1 << w), 1), 226 - makes[w]);
        }
        CHECK.eq("all", x.by(255, 200), 226 * 200);
        CHECK.eq("256", x.by(256, 200), -1);
        CHECK.eq("257", x.by(257, 200), -1);
        CHECK.eq("-1", x.by(-1, 200), -1);
        WasteBrook one = Check.of("work a;makes a 5;");
        CHECK.eq("0 of one", one.by(0, 1), 0);
        CHECK.eq("1 of one", one.by(1, 1), 5);
        CHECK.eq("2 of one", one.by(2, 1), -1);
        WasteBrook none = new WasteBrook();
        CHECK.eq("0 of none", none.by(0, 1), 0);
        CHECK.eq("1 of none", none.by(1, 1), -1);
    }

    /** Promise 22: "n HOURS (1 to 200)". */
    private static void promise22HoursFrom1To200() {
        WasteBrook x = Check.of("good w 0;work a;takes a w 1 99 99;feeds a w 1;makes a 99;work b 11 11;makes b 1;");
        int[] hours = {1, 2, 11, 12, 13, 23, 24, 25, 198, 199, 200};
        for (int n : hours) {
            CHECK.eq("a in " + n, x.by(1, n), 99 * n);
            CHECK.eq("b in " + n, x.by(2, n), n / 12);
            CHECK.eq("both in " + n, x.by(3, n), 99 * n + n / 12);
        }
        for (int n : NO_HOURS) {
            CHECK.eq("in " + n, x.by(3, n), -1);
        }
    }

    /** "MADE by a set ...: in a RUN of the BROOK as told (no PLAN) in which all others stand": their vats are filled all the same. */
    private static void promise22AllOthersStand() {
        WasteBrook x = Check.of("good w 0;work a;gives a w 1;makes a 1;work c;takes c w 1 2 0;work b;takes b w 1 1 0;makes b 10;feeds b w 1;");
        CHECK.eq("c's vat takes the first two; what is fed comes: all three", x.by(5, 4), 4 + 40);
        WasteBrook y = Check.of("good w 0;work a;gives a w 1;makes a 1;work c;takes c w 1 2 0;work b;takes b w 1 1 0;makes b 10;");
        CHECK.eq("in 2 HOURS none comes to b", y.by(5, 2), 2);
        CHECK.eq("in 3 HOURS one", y.by(5, 3), 13);
        CHECK.eq("c takes all, when it goes", y.by(7, 200), 200);
        Check.plan(y, "stops a 0 199;");
        CHECK.eq("no PLAN", y.by(7, 200), 200);
    }

    /** Promise 22: "NONE: no such ones". */
    private static void promise22None() {
        for (int set : NO_SETS) {
            Twin.same(CHECK, "by(" + set + ", 1)", t -> t.by(set, 1), -1);
        }
        for (int n : NO_HOURS) {
            Twin.same(CHECK, "by(3, " + n + ")", t -> t.by(3, n), -1);
        }
        Twin.same(CHECK, "by(3, 1)", t -> t.by(3, 1), 2 + 7);
    }

    /** Promise 23: "What is less MADE in n HOURS by all, if WORK w stands": less than nothing if more is. */
    private static void promise23WhatIsLess() {
        WasteBrook x = Check.of(PAIR);
        CHECK.eq("without a nothing", x.needed(0, 10), 30);
        CHECK.eq("without b what a makes", x.needed(1, 10), 20);
        WasteBrook y = Check.of("good w 0;work a;gives a w 2;work c;takes c w 2 2 0;work b;takes b w 2 2 0;makes b 7;");
        CHECK.eq("in 1 HOUR c's vat takes all", y.needed(1, 1), 0);
        CHECK.eq("in 2 HOURS 7 more without c", y.needed(1, 2), -7);
        CHECK.eq("in 200", y.needed(1, 200), -7 * 199);
    }

    /** Promise 23: "n HOURS (1 to 200)". */
    private static void promise23HoursFrom1To200() {
        WasteBrook x = Check.of(PAIR);
        int[][] rows = {{0, -1}, {1, 3}, {2, 6}, {199, 597}, {200, 600}, {201, -1}};
        for (int[] row : rows) {
            CHECK.eq("needed(0, " + row[0] + ")", x.needed(0, row[0]), row[1]);
        }
    }

    /** Promise 23: "NONE: no such ones". */
    private static void promise23None() {
        for (int w : new int[] {-1, 2, 8, LEAST, LARGEST}) {
            Twin.same(CHECK, "needed(" + w + ", 1)", t -> t.needed(w, 1), -1);
        }
        for (int n : NO_HOURS) {
            Twin.same(CHECK, "needed(0, " + n + ")", t -> t.needed(0, n), -1);
        }
        Twin.same(CHECK, "needed(1, 1)", t -> t.needed(1, 1), 7);
        CHECK.eq("without WORKS", new WasteBrook().needed(0, 1), -1);
        CHECK.eq("the last of eight", Check.of(EIGHT).needed(7, 1), 99);
        CHECK.eq("one behind it", Check.of(EIGHT).needed(8, 1), -1);
    }

    /** Promise 24: "in n HOURS (1 to 200) is worked out: MADE by all". */
    private static void promise24HoursFrom1To200() {
        int[][] rows = {{0, -1}, {1, 226}, {2, 452}, {199, 226 * 199}, {200, 45200}, {201, -1}};
        for (int[] row : rows) {
            CHECK.eq("worth(" + row[0] + ")", Check.of(EIGHT).worth(row[0]), row[1]);
        }
        for (int n : NO_HOURS) {
            Twin.same(CHECK, "worth(" + n + ")", t -> t.worth(n), -1);
        }
    }

    /** Promise 24: "NONE: ... no WORKS": none, and one. */
    private static void promise24NoneNoWorks() {
        CHECK.eq("of an empty BROOK", new WasteBrook().worth(1), -1);
        CHECK.eq("of GOODS alone", Check.of("good w 0;joined;").worth(1), -1);
        CHECK.eq("of one WORK", Check.of("work a;").worth(1), 0);
        WasteBrook x = Twin.full();
        long above = x.worthOf(0, 0);
        x.end(0);
        x.brook();
        CHECK.eq("without WORKS now", x.worth(5), -1);
        CHECK.eq("what was worked out last stays", x.worthOf(0, 0), above);
    }

    private static void worthIs(WasteBrook x, int w, long above, long below) {
        CHECK.eq("above of " + w, x.worthOf(w, 0), above);
        CHECK.eq("below of " + w, x.worthOf(w, 1), below);
    }

    /** WORTH: "by all orders, alike likely, in which the WORKS come to the set one by one, what it adds to MADE, in the mean". */
    private static void promise25ByAllOrders() {
        WasteBrook one = Check.of("work a;makes a 7;");
        one.worth(3);
        worthIs(one, 0, 21, 1);
        WasteBrook two = Check.of(PAIR);
        two.worth(1);
        // ab: 1 and 2; ba: 3 and 0
        worthIs(two, 0, 2, 1);
        worthIs(two, 1, 1, 1);
        WasteBrook three = Check.of("good w 0;work a;gives a w 2;work b;takes b w 1 1 0;makes b 1;work c;takes c w 1 1 0;makes c 1;");
        three.worth(1);
        // b's vat takes 1 of 2 even if b stands: b and c each by a alone
        worthIs(three, 0, 1, 1);
        worthIs(three, 1, 1, 2);
        worthIs(three, 2, 1, 2);
        WasteBrook eight = Check.of(EIGHT);
        eight.worth(200);
        int[] makes = {1, 2, 4, 8, 16, 32, 64, 99};
        for (int w = 0; w < 8; w++) {
            worthIs(eight, w, 200 * makes[w], 1);
        }
    }

    /** Promise 25: "in least numbers", above 0 or below it. */
    private static void promise25LeastNumbers() {
        // of w 1 comes, to the first that goes and has room: in one HOUR b alone makes
        WasteBrook third = Check.of("good w 0;good v 0;work a;gives a w 1;work d;gives d v 1;work b;takes b w 1 1 0;takes b v 1 1 0;makes b 1;");
        third.worth(1);
        for (int w = 0; w < 3; w++) {
            worthIs(third, w, 1, 3);
        }
        third.worth(2);
        for (int w = 0; w < 3; w++) {
            worthIs(third, w, 2, 3);
        }
        third.worth(3);
        for (int w = 0; w < 3; w++) {
            worthIs(third, w, 1, 1);
        }
        WasteBrook below0 = Check.of("good w 0;work a;gives a w 2;work c;takes c w 2 2 0;work b;takes b w 2 2 0;makes b 7;");
        below0.worth(2);
        // a, b: 7 without c, in one of three places c comes last of all
        worthIs(below0, 0, 7, 6);
        worthIs(below0, 1, -7, 3);
        worthIs(below0, 2, 7, 6);
        StringBuilder b = new StringBuilder("good p 0;good q 0;good r 0;good s 0;good t 0;good u 0;");
        for (int g = 0; g < 6; g++) {
            b.append("work ").append((char) ('a' + g)).append(";gives ").append((char) ('a' + g)).append(' ').append((char) ('p' + g)).append(" 1;");
        }
        b.append("work x;");
        for (int g = 0; g < 6; g++) {
            b.append("takes x ").append((char) ('p' + g)).append(" 1 1 0;");
        }
        WasteBrook seventh = Check.of(b + "makes x 1;work y;");
        seventh.worth(1);
        for (int w = 0; w < 7; w++) {
            worthIs(seventh, w, 1, 7);
        }
        worthIs(seventh, 7, 0, 1);
    }

    /** Promise 25: "(0: 0 by 1)". */
    private static void promise25ZeroByOne() {
        WasteBrook x = Check.of("work a;work b;makes b 1;");
        x.worth(200);
        worthIs(x, 0, 0, 1);
        worthIs(x, 1, 200, 1);
        WasteBrook one = Check.of("work a;");
        one.worth(1);
        worthIs(one, 0, 0, 1);
        // what it adds in one order and takes away in another is 0 together
        WasteBrook even = Check.of("good w 0;work a;gives a w 2;work c;takes c w 2 2 0;makes c 7;work b;takes b w 2 2 0;makes b 14;");
        even.worth(2);
        // ac 14, ab 14, abc 14: c adds 14 behind a alone, nothing else
        worthIs(even, 1, 7, 3);
    }

    /** Promise 25: "by the latest worth() that was not NONE": other BROOKS since count nothing. */
    private static void promise25ByTheLatestThatWasNotNone() {
        WasteBrook x = Check.of("work a;makes a 3;work b;");
        x.worth(2);
        x.worth(0);
        worthIs(x, 0, 6, 1);
        x.worth(201);
        worthIs(x, 0, 6, 1);
        x.brook();
        x.worth(2);
        worthIs(x, 0, 6, 1);
        Check.brook(x, "work a;makes a 9;");
        worthIs(x, 0, 6, 1);
        worthIs(x, 1, 0, 1);
        x.worth(1);
        worthIs(x, 0, 9, 1);
        CHECK.throwsNoSuch("there is no WORK 1 then", () -> x.worthOf(1, 0));
        Check.brook(x, "work a;work b;");
        CHECK.throwsNoSuch("nor by another BROOK since", () -> x.worthOf(1, 0));
        x.worth(1);
        worthIs(x, 1, 0, 1);
    }

    /** Promise 25: "NoSuchElementException: no such ones then"; "A call that throws changes nothing". */
    private static void promise25NoSuchOnes() {
        for (int w : new int[] {-1, 2, 3, 8, LEAST, LARGEST}) {
            Twin.sameThrown(CHECK, "worthOf(" + w + ", 0)", t -> t.worthOf(w, 0));
            Twin.sameThrown(CHECK, "worthOf(" + w + ", 1)", t -> t.worthOf(w, 1));
        }
        for (int what : new int[] {-1, 2, 3, LEAST, LARGEST}) {
            Twin.sameThrown(CHECK, "worthOf(0, " + what + ")", t -> t.worthOf(0, what));
        }
        WasteBrook eight = Check.of(EIGHT);
        eight.worth(1);
        worthIs(eight, 7, 99, 1);
        CHECK.throwsNoSuch("WORK 8", () -> eight.worthOf(8, 0));
    }

    /** Promise 25: "or ahead of any". */
    private static void promise25AheadOfAny() {
        WasteBrook x = Check.of("work a;");
        CHECK.throwsNoSuch("ahead of any", () -> x.worthOf(0, 0));
        x.worth(0);
        x.worth(201);
        CHECK.throwsNoSuch("those that were NONE are none", () -> x.worthOf(0, 1));
        x.worth(1);
        worthIs(x, 0, 0, 1);
    }

    private static int kept(WasteBrook x, int n, int... shares) {
        StringBuilder b = new StringBuilder();
        for (int s : shares) {
            b.append((char) (s >> 8)).append((char) (s & 255));
        }
        Check.put(x, b.toString());
        return x.kept(n);
    }

    /** Promise 26: "NONE: they are": shares one less than is made, just so, one more; of one and of two. */
    private static void promise26TheyAre() {
        WasteBrook x = Check.of(PAIR);
        // in 100 HOURS: a 100, ab 300
        CHECK.eq("a one less", kept(x, 100, 99, 300), 1);
        CHECK.eq("a just so", kept(x, 100, 100, 200), -1);
        CHECK.eq("a one more", kept(x, 100, 101, 200), -1);
        CHECK.eq("both one less", kept(x, 100, 100, 199), 3);
        CHECK.eq("both one more", kept(x, 100, 100, 201), -1);
        CHECK.eq("b nothing", kept(x, 100, 300, 0), -1);
        CHECK.eq("a all but one", kept(x, 100, 299, 0), 3);
        CHECK.eq("where nothing is made", kept(Check.of("work a;work b;"), 200, 0, 0), -1);
        CHECK.eq("the largest shares", kept(Check.of("work a;makes a 99;work b;makes b 99;"), 200, 65535, 65535), -1);
        WasteBrook one = Check.of("work a;makes a 99;");
        CHECK.eq("19799", kept(one, 200, 19799), 1);
        CHECK.eq("19800", kept(one, 200, 19800), -1);
        CHECK.eq("19801", kept(one, 200, 19801), -1);
    }

    /** Promise 26: "the least set (as bits) that MAKES more alone". */
    private static void promise26TheLeastSet() {
        WasteBrook x = Check.of("work a;makes a 1;work b;makes b 1;work c;makes c 1;");
        CHECK.eq("a", kept(x, 1, 0, 0, 0), 1);
        CHECK.eq("b", kept(x, 1, 1, 0, 0), 2);
        CHECK.eq("a and b have enough, c has not", kept(x, 1, 1, 1, 0), 4);
        CHECK.eq("c is 4, but a and c are not wronged", kept(x, 1, 9, 1, 0), 4);
        CHECK.eq("none", kept(x, 1, 1, 1, 1), -1);
        WasteBrook all = Check.of("good w 0;good v 0;work a;gives a w 1;work d;gives d v 1;work b;takes b w 1 1 0;takes b v 1 1 0;makes b 3;");
        CHECK.eq("all three alone", kept(all, 1, 1, 1, 0), 7);
        CHECK.eq("not these", kept(all, 1, 1, 1, 1), -1);
        StringBuilder eight = new StringBuilder();
        for (char w = 'a'; w < 'i'; w++) {
            eight.append("work ").append(w).append(";makes ").append(w).append(" 1;");
        }
        CHECK.eq("the last of eight", kept(Check.of(eight.toString()), 1, 1, 1, 1, 1, 1, 1, 1, 0), 128);
        CHECK.eq("the last, whatever the others have", kept(Check.of(eight.toString()), 1, 9, 9, 9, 9, 9, 9, 9, 0), 128);
    }

    /** Promise 26: "two bytes for each WORK, the higher first": one byte less, just so many, one more. */
    private static void promise26TwoBytesForEachWork() {
        WasteBrook x = Check.of(PAIR);
        for (int bytes = 0; bytes <= 8; bytes++) {
            Check.put(x, "\u0001".repeat(bytes));
            CHECK.eq("kept by " + bytes + " bytes", x.kept(1), bytes == 4 ? -1 : -2);
            CHECK.eq("the tape is empty then", x.count(7), 0);
        }
        WasteBrook none = new WasteBrook();
        CHECK.eq("without WORKS no bytes", none.kept(1), -1);
        Check.put(none, "\u0001\u0001");
        CHECK.eq("without WORKS two bytes", none.kept(1), -2);
        WasteBrook one = Check.of("work a;makes a 2;");
        // 256 by 255, 256 and, the lower byte ahead, 1
        CHECK.eq("0, 255", kept(one, 128, 255), 1);
        CHECK.eq("1, 0", kept(one, 128, 256), -1);
        CHECK.eq("0, 1", kept(one, 128, 1), 1);
        Check.put(one, "\u0001\u0000\u0000".substring(0, 2));
        CHECK.eq("as bytes", one.kept(128), -1);
        Check.put(one, "joined;");
        one.end(1);
        CHECK.eq("one byte, whatever was behind it", one.kept(128), -2);
    }

    /** Promise 26: "n HOURS (1 to 200)". */
    private static void promise26HoursFrom1To200() {
        WasteBrook x = Check.of("work a;makes a 1;");
        int[] hours = {1, 2, 199, 200};
        for (int n : hours) {
            CHECK.eq("one less than is made in " + n, kept(x, n, n - 1), 1);
            CHECK.eq("just so", kept(x, n, n), -1);
        }
        for (int n : NO_HOURS) {
            CHECK.eq("in " + n, kept(x, n, 9), -2);
            CHECK.eq("the tape is empty then", x.count(7), 0);
        }
    }

    /** Promise 26: "-2: not as told": the tape is empty then, and nothing else has changed. */
    private static void promise26NotAsTold() {
        Twin.tapeAlone(CHECK, "kept(1) by a tape of too many bytes", t -> t.kept(1), -2);
        Twin.tapeAlone(CHECK, "kept(0)", t -> {
            t.end(4);
            return t.kept(0);
        }, -2);
        Twin.tapeAlone(CHECK, "kept(201)", t -> {
            t.end(4);
            return t.kept(201);
        }, -2);
        Twin.tapeAlone(CHECK, "kept(200) as told", t -> {
            t.end(4);
            return t.kept(200);
        }, -1);
    }

    /** STEADY: "each WORK has in each HOUR what it takes": one less than N, N, one more. */
    private static void promise27EachHasWhatItTakes() {
        for (int given = 1; given <= 9; given++) {
            for (int n = 1; n <= 9; n++) {
                WasteBrook x = Check.of("good w 0;work a;gives a w " + given + ";work b;takes b w " + n + " 9 0;");
                CHECK.eq("of " + given + " " + n, x.steady(3), given >= n ? 1 : 0);
            }
            WasteBrook lost = Check.of("good w 2;work a;gives a w " + given + ";work c;work b;takes b w 1 9 0;");
            CHECK.eq("of " + given + " 4 are lost, 0 at least: STREAM less than 1", lost.steady(5), given >= 5 ? 1 : 0);
        }
        WasteBrook rest = Check.of("good w 0;work a;gives a w 5;work b;takes b w 2 9 0;work c;takes c w 3 9 0;work d;takes d w 1 9 0;");
        CHECK.eq("leaves the rest", rest.steady(7), 1);
        CHECK.eq("but no more", rest.steady(15), 0);
        CHECK.eq("of one less", rest.steady(11), 1);
        WasteBrook order = Check.of("good w 0;work b;takes b w 1 9 0;work a;gives a w 5;");
        CHECK.eq("not up the brook", order.steady(3), 0);
        WasteBrook self = Check.of("good w 0;work a;takes a w 1 9 0;gives a w 5;");
        CHECK.eq("not of its own", self.steady(1), 0);
    }

    /** STEADY: "(hours, SIZES, HAS and JOINED counting nothing)". */
    private static void promise27HoursSizesHasAndJoinedCountNothing() {
        WasteBrook hours = Check.of("good w 0;work a 0 0;gives a w 1;work b 11 11;takes b w 1 9 0;");
        CHECK.eq("hours", hours.steady(3), 1);
        WasteBrook has = Check.of("good w 0;work a;takes a w 1 99 99;");
        CHECK.eq("HAS", has.steady(1), 0);
        WasteBrook size = Check.of("good w 0;work a;gives a w 9;work b;takes b w 1 99 0;work c;takes c w 8 8 0;");
        CHECK.eq("SIZES: b takes N alone", size.steady(7), 1);
        WasteBrook small = Check.of("good w 0;work a;gives a w 9;work b;takes b w 1 1 1;work c;takes c w 8 8 0;");
        CHECK.eq("SIZES: more than b's vat could have comes by", small.steady(7), 1);
        WasteBrook ring = Check.of("good w 0;work b;takes b w 1 9 0;work a;gives a w 5;joined;");
        CHECK.eq("JOINED", ring.steady(3), 0);
    }

    /** STEADY: "of STREAM (what is fed there, too)": fed to one of the set or not. */
    private static void promise27FedThereToo() {
        WasteBrook x = Check.of("good w 1;work a;feeds a w 2;work b;takes b w 1 9 0;work c;takes c w 1 9 0;feeds c w 1;");
        CHECK.eq("b of what is fed to a, who is none of the set", x.steady(2), 1);
        CHECK.eq("c of its own", x.steady(4), 1);
        CHECK.eq("both", x.steady(6), 1);
        CHECK.eq("all", x.steady(7), 1);
        WasteBrook less = Check.of("good w 1;work a;feeds a w 1;work b;takes b w 1 9 0;work c;takes c w 1 9 0;");
        CHECK.eq("lost on its way", less.steady(2), 0);
    }

    /** STEADY: "who is none of them takes nothing". */
    private static void promise27WhoIsNoneOfThemTakesNothing() {
        WasteBrook x = Check.of("good w 0;work a;gives a w 1;work b;takes b w 1 9 0;gives b w 9;work c;takes c w 1 9 0;");
        CHECK.eq("c has what b does not take", x.steady(5), 1);
        CHECK.eq("c has of b", x.steady(7), 1);
        CHECK.eq("b gives nothing either, being none of them", x.steady(4), 0);
    }

    /** Promise 27: "1 ..., 0: not; NONE: no such one": the sets ahead of 0 and behind all. */
    private static void promise27None() {
        for (int set : NO_SETS) {
            Twin.same(CHECK, "steady(" + set + ")", t -> t.steady(set), -1);
        }
        Twin.same(CHECK, "steady(0)", t -> t.steady(0), 1);
        Twin.same(CHECK, "steady(2)", t -> t.steady(2), 0);
        Twin.same(CHECK, "steady(3)", t -> t.steady(3), 1);
        CHECK.eq("of eight", Check.of(EIGHT).steady(255), 1);
        CHECK.eq("of eight", Check.of(EIGHT).steady(256), -1);
        CHECK.eq("of none", new WasteBrook().steady(0), 1);
        CHECK.eq("of none", new WasteBrook().steady(1), -1);
    }

    /** Promise 28: "how many (k NONE)": one at the least, 256 at the most. */
    private static void promise28HowMany() {
        CHECK.eq("of no WORKS the empty one", new WasteBrook().steadies(-1), 1);
        CHECK.eq("of one that goes", Check.of("work a;").steadies(-1), 2);
        CHECK.eq("of one that does not", Check.of("good w 0;work a;takes a w 1 1 1;").steadies(-1), 1);
        CHECK.eq("of eight", Check.of(EIGHT).steadies(-1), 256);
    }

    /** Promise 28: "or the k-th (rising as bits)": the first, the last. */
    private static void promise28TheKth() {
        WasteBrook x = Check.of("good w 0;work b;takes b w 1 1 0;work a;gives a w 1;work c;takes c w 1 1 0;");
        int[] all = {0, 2, 6};
        CHECK.eq("how many", x.steadies(-1), 3);
        for (int k = 0; k < 3; k++) {
            CHECK.eq("steadies(" + k + ")", x.steadies(k), all[k]);
        }
        CHECK.eq("behind the last", x.steadies(3), -1);
        WasteBrook eight = Check.of(EIGHT);
        for (int k : new int[] {0, 1, 127, 128, 254, 255}) {
            CHECK.eq("of eight " + k, eight.steadies(k), k);
        }
        CHECK.eq("of eight 256", eight.steadies(256), -1);
    }

    /** Promise 28: "NONE: none such": k below NONE, k behind the last. */
    private static void promise28None() {
        for (int k : new int[] {-2, 3, 4, LEAST, LARGEST}) {
            Twin.same(CHECK, "steadies(" + k + ")", t -> t.steadies(k), -1);
        }
        Twin.same(CHECK, "steadies(NONE)", t -> t.steadies(-1), 3);
        Twin.same(CHECK, "steadies(0)", t -> t.steadies(0), 0);
        Twin.same(CHECK, "steadies(2)", t -> t.steadies(2), 3);
    }

    /** GREATEST: "the STEADY set of the most of them", among none, one, all. */
    private static void promise29TheMostOfThem() {
        WasteBrook x = Check.of("good w 0;work a;gives a w 1;work b;takes b w 1 1 0;work c;takes c w 1 1 0;work d;");
        int[][] rows = {{0, 0}, {1, 1}, {2, 0}, {3, 3}, {4, 0}, {5, 5}, {6, 0}, {7, 3}, {8, 8}, {14, 8}, {15, 11}};
        for (int[] row : rows) {
            CHECK.eq("greatest(" + row[0] + ")", x.greatest(row[0]), row[1]);
        }
        CHECK.eq("of eight", Check.of(EIGHT).greatest(255), 255);
        CHECK.eq("of none", new WasteBrook().greatest(0), 0);
    }

    /** GREATEST: "of like ones the least as bits"; one of more WORKS is no like one, though it is larger as bits. */
    private static void promise29OfLikeOnesTheLeast() {
        WasteBrook x = Check.of("good w 0;work a;gives a w 2;work b;takes b w 2 2 0;work c;takes c w 1 1 0;work d;takes d w 1 1 0;");
        CHECK.eq("a, c, d are three", x.greatest(15), 13);
        CHECK.eq("a, b or a, c", x.greatest(7), 3);
        CHECK.eq("a, b or a, d", x.greatest(11), 3);
        CHECK.eq("a, c, d", x.greatest(13), 13);
    }

    /** Promise 29: "NONE: no such one". */
    private static void promise29None() {
        for (int set : NO_SETS) {
            Twin.same(CHECK, "greatest(" + set + ")", t -> t.greatest(set), -1);
        }
        Twin.same(CHECK, "greatest(0)", t -> t.greatest(0), 0);
        Twin.same(CHECK, "greatest(3)", t -> t.greatest(3), 3);
        CHECK.eq("256 of eight", Check.of(EIGHT).greatest(256), -1);
        CHECK.eq("1 of none", new WasteBrook().greatest(1), -1);
    }

    /** Promise 30: "Those of the GREATEST of all WORKS, but w (one of it), that are not in the GREATEST of all but w". */
    private static void promise30WhoFalls() {
        WasteBrook chain = Check.of("good p 0;good q 0;work a;gives a p 1;work b;takes b p 1 1 0;gives b q 1;work c;takes c q 1 1 0;work d;");
        CHECK.eq("with a b and c", chain.falls(0), 6);
        CHECK.eq("with b c", chain.falls(1), 4);
        CHECK.eq("with c none", chain.falls(2), 0);
        CHECK.eq("with d none", chain.falls(3), 0);
        // the GREATEST of all but b has another WORK, c; it is not of the GREATEST of all
        WasteBrook other = Check.of("good w 0;work a;gives a w 1;work b;takes b w 1 1 0;work c;takes c w 1 1 0;");
        CHECK.eq("c comes for b, none falls", other.falls(1), 0);
        CHECK.eq("with a b", other.falls(0), 2);
    }

    /** Promise 30: "NONE: ... not of it". */
    private static void promise30NotOfIt() {
        WasteBrook x = Check.of("good w 0;work a;gives a w 1;work b;takes b w 1 1 0;work c;takes c w 1 1 0;");
        CHECK.eq("c is not of it", x.falls(2), -1);
        CHECK.eq("nobody is of it", Check.of("good w 0;work a;takes a w 1 1 1;").falls(0), -1);
        CHECK.eq("one is of it", Check.of("work a;").falls(0), 0);
    }

    /** Promise 30: "NONE: no such one". */
    private static void promise30None() {
        for (int w : new int[] {-1, 2, 8, LEAST, LARGEST}) {
            Twin.same(CHECK, "falls(" + w + ")", t -> t.falls(w), -1);
        }
        Twin.same(CHECK, "falls(0)", t -> t.falls(0), 2);
        Twin.same(CHECK, "falls(1)", t -> t.falls(1), 0);
        CHECK.eq("without WORKS", new WasteBrook().falls(0), -1);
        CHECK.eq("7 of eight", Check.of(EIGHT).falls(7), 0);
        CHECK.eq("8 of eight", Check.of(EIGHT).falls(8), -1);
    }

    /** LEAST fed: "the fewest that ... make it STEADY", by 1 to 9 that are taken, by what is lost, by what is there. */
    private static void promise31TheFewest() {
        for (int n = 1; n <= 9; n++) {
            CHECK.eq("N " + n, Check.of("good w 0;work a;takes a w " + n + " 9 9;").fed(1), 10 * n);
            CHECK.eq("N " + n + " of GOOD 1", Check.of("good v 0;good w 0;work a;takes a w " + n + " 9 9;").fed(1), 10 * n + 1);
            int there = Check.of("good w 0;work a;feeds a w 3;takes a w " + n + " 9 9;").fed(1);
            CHECK.eq("3 are there for " + n, there, n <= 3 ? 0 : 10 * (n - 3));
            int below = Check.of("good w 2;work b;takes b w 1 9 9;work a;takes a w " + n + " 9 9;").fed(3);
            CHECK.eq("1 and 2 lost above " + n, below, 10 * (n + 3));
        }
    }

    /** LEAST fed: "99 at most": 98, 99, and 100, which is NONE. */
    private static void promise31NinetyNineAtMost() {
        // 9 are lost on each of seven ways; by 8 WORKS that take 4 or 5 of them
        for (int last = 3; last <= 9; last++) {
            StringBuilder b = new StringBuilder("good w 9;");
            for (char w = 'a'; w < 'i'; w++) {
                b.append("work ").append(w).append(";takes ").append(w).append(" w ").append(w == 'h' ? last : w == 'a' ? 2 : 4).append(" 9 9;");
            }
            int fewest = 63 + 2 + 6 * 4 + last;
            CHECK.eq("fewest " + fewest, Check.of(b.toString()).fed(255), fewest <= 99 ? 10 * fewest : -1);
        }
        for (int last = 6; last <= 9; last++) {
            StringBuilder b = new StringBuilder("good v 0;good u 0;good w 9;");
            for (char w = 'a'; w < 'i'; w++) {
                b.append("work ").append(w).append(";takes ").append(w).append(" w ").append(w == 'h' ? last : 4).append(" 9 9;");
            }
            int fewest = 63 + 28 + last;
            CHECK.eq("fewest of GOOD 2: " + fewest, Check.of(b.toString()).fed(255), fewest <= 99 ? 10 * fewest + 2 : -1);
        }
    }

    /** LEAST fed: "of like ones the lesser GOOD"; fewer of a larger GOOD are less. */
    private static void promise31OfLikeOnesTheLesserGood() {
        // what is taken of the one is there, if the other is fed: c takes w or v? each is taken by one of the set
        WasteBrook x = Check.of("good w 0;good v 0;work a;work b;takes b w 2 2 0;gives b v 5;work c;takes c v 2 2 0;");
        CHECK.eq("b: 2 of w", x.fed(2), 20);
        CHECK.eq("c: 2 of v", x.fed(4), 21);
        CHECK.eq("b and c: 2 of w, which b gives on", x.fed(6), 20);
        WasteBrook two = Check.of("good w 0;good v 0;work a;takes a w 1 1 0;takes a v 1 1 0;");
        CHECK.eq("of one GOOD alone none does", two.fed(1), -1);
    }

    /** LEAST fed: "fed to its first WORK from above in each HOUR besides": besides what is fed there, not to the first of all. */
    private static void promise31ToItsFirstWorkBesides() {
        WasteBrook x = Check.of("good w 1;work a;work b;feeds b w 2;takes b w 5 9 0;work c;takes c w 1 9 0;");
        CHECK.eq("b: 3 besides", x.fed(2), 30);
        CHECK.eq("a and b: to a, 1 lost", x.fed(3), 40);
        CHECK.eq("b and c: to b, 1 lost", x.fed(6), 50);
        CHECK.eq("c: what b does not take comes, 1 is lost", x.fed(4), 0);
        CHECK.eq("a, b and c", x.fed(7), 60);
    }

    /** Promise 31: "0: it is STEADY". */
    private static void promise31ZeroItIsSteady() {
        CHECK.eq("who takes nothing", Check.of("work a;").fed(1), 0);
        CHECK.eq("has just what it takes", Check.of("good w 0;work a;feeds a w 1;takes a w 1 1 0;").fed(1), 0);
        CHECK.eq("lacks one", Check.of("good w 0;work a;feeds a w 1;takes a w 2 2 0;").fed(1), 10);
    }

    /** Promises 22 to 31 where there are as many GOODS and WORKS as can be. */
    private static void sixGoodsAndEightWorks() {
        String all = "good a 1;good b 0;good c 0;good d 0;good e 0;good f 1;work p;work q;work r;work s;work t;work u;work v;work w;";
        WasteBrook x = Check.of(all + "takes q a 1 1 0;gives v f 2;takes w f 1 1 0;makes w 3;makes p 1;");
        CHECK.eq("p and q: 2 of a, as 1 is lost", x.fed(3), 20);
        CHECK.eq("q alone", x.fed(2), 10);
        CHECK.eq("w alone", x.fed(128), 15);
        CHECK.eq("p and w: 8 of f, as 7 are lost", x.fed(129), 85);
        CHECK.eq("v and w", x.steady(192), 1);
        CHECK.eq("w alone", x.steady(128), 0);
        CHECK.eq("all but q", x.greatest(255), 253);
        CHECK.eq("w falls with v", x.falls(6), 128);
        CHECK.eq("v does not with w", x.falls(7), 0);
        CHECK.eq("six that take nothing, of v and w all but w alone", x.steadies(-1), 32 * 3);
        CHECK.eq("the last", x.steadies(95), 253);
        CHECK.eq("by v and w", x.by(192, 2), 6);
        CHECK.eq("by all", x.worth(2), 8);
        worthIs(x, 6, 3, 1);
        worthIs(x, 7, 3, 1);
        worthIs(x, 0, 2, 1);
        worthIs(x, 5, 0, 1);
    }

    /** Promise 31: "NONE: 99 of none do, no such set": 0 is none, though it is STEADY. */
    private static void promise31None() {
        for (int set : new int[] {0, -1, 4, 8, LEAST, LARGEST}) {
            Twin.same(CHECK, "fed(" + set + ")", t -> t.fed(set), -1);
        }
        Twin.same(CHECK, "fed(1)", t -> t.fed(1), 0);
        Twin.same(CHECK, "fed(2)", t -> t.fed(2), 30);
        Twin.same(CHECK, "fed(3)", t -> t.fed(3), 0);
        CHECK.eq("without WORKS 0", new WasteBrook().fed(0), -1);
        CHECK.eq("without WORKS 1", new WasteBrook().fed(1), -1);
        CHECK.eq("255 of eight", Check.of(EIGHT).fed(255), 0);
        CHECK.eq("256 of eight", Check.of(EIGHT).fed(256), -1);
    }
}
