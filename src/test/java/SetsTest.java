/** Promises 22 to 31: MADE by sets, WORTH, KEPT, STEADY sets and what is LEAST fed. */
public final class SetsTest {
    private static final Check CHECK = new Check();
    /** b goes by a alone; c takes away what b would have, if it is not full. */
    private static final String CHAIN = "good w 0;work a;gives a w 2;makes a 1;work c;takes c w 2 2 0;makes c 3;work b;takes b w 2 2 0;makes b 5;";

    private SetsTest() {
    }

    public static void main(String[] args) {
        by();
        needed();
        worth();
        worthStays();
        negativeWorth();
        kept();
        steady();
        steadies();
        greatest();
        falls();
        fed();
        CHECK.close("SetsTest");
    }

    /** With c standing its vat is full behind the first HOUR, and all comes to b. */
    private static void by() {
        WasteBrook x = Check.of(CHAIN);
        CHECK.eq("all", x.by(7, 10), 10 + 30);
        CHECK.eq("a and b: c's vat takes the first", x.by(5, 10), 10 + 45);
        CHECK.eq("a alone", x.by(1, 200), 200);
        CHECK.eq("none", x.by(0, 10), 0);
        CHECK.eq("b and c without a", x.by(6, 200), 0);
        CHECK.eq("a and c", x.by(3, 1), 4);
        CHECK.eq("a set too large", x.by(8, 10), -1);
        CHECK.eq("below 0", x.by(-1, 10), -1);
        CHECK.eq("0 HOURS", x.by(7, 0), -1);
        CHECK.eq("201 HOURS", x.by(7, 201), -1);
        CHECK.eq("200 HOURS", x.by(7, 200), 800);
        Check.plan(x, "stops a 0 199;");
        CHECK.eq("no PLAN counts", x.by(7, 200), 800);
        x.begin();
        x.on(20);
        CHECK.eq("but in the RUN", x.made(), 0);
        WasteBrook once = Check.of("good w 0;work b;takes b w 1 99 20;makes b 3;");
        CHECK.eq("what is had lasts for twenty HOURS", once.by(1, 200), 60);
        CHECK.eq("19 of them", once.by(1, 19), 57);
        WasteBrook y = Check.of("good w 0;work a 3 8;gives a w 4;makes a 2;work b 2 9;takes b w 3 50 7;makes b 4;work c;takes c w 1 9 9;makes c 1;");
        y.begin();
        for (int n = 1; n <= 200; n++) {
            y.on(1);
            CHECK.eq("by all in " + n, y.by(7, n), y.made());
        }
    }

    private static void needed() {
        WasteBrook x = Check.of(CHAIN);
        CHECK.eq("a", x.needed(0, 10), 40);
        CHECK.eq("c is in the way", x.needed(1, 10), 40 - 55);
        CHECK.eq("b gets nothing", x.needed(2, 10), 0);
        CHECK.eq("WORK 3", x.needed(3, 10), -1);
        CHECK.eq("WORK -1", x.needed(-1, 10), -1);
        CHECK.eq("0 HOURS", x.needed(0, 0), -1);
        CHECK.eq("201 HOURS", x.needed(0, 201), -1);
    }

    private static void worthIs(WasteBrook x, int w, long above, long below) {
        CHECK.eq("above of " + w, x.worthOf(w, 0), above);
        CHECK.eq("below of " + w, x.worthOf(w, 1), below);
    }

    /** In 10 HOURS: a 10, ac 40, ab 55, abc 40, all others 0. */
    private static void worth() {
        WasteBrook x = Check.of(CHAIN);
        CHECK.eq("worth(10)", x.worth(10), 40);
        // by its orders (2 * 10 + 40 + 55 + 2 * 40) / 6, (30 - 2 * 15) / 6 and 45 / 6
        worthIs(x, 0, 65, 2);
        worthIs(x, 1, 0, 1);
        worthIs(x, 2, 15, 2);
    }

    private static void worthStays() {
        WasteBrook x = new WasteBrook();
        CHECK.throwsNoSuch("ahead of any", () -> x.worthOf(0, 0));
        CHECK.eq("no WORKS", x.worth(5), -1);
        CHECK.throwsNoSuch("ahead of any but NONE", () -> x.worthOf(0, 0));
        Check.brook(x, "work a 0 4;makes a 3;work b;");
        CHECK.eq("0 HOURS", x.worth(0), -1);
        CHECK.eq("201 HOURS", x.worth(201), -1);
        CHECK.eq("200 HOURS", x.worth(200), 3 * (16 * 5 + 5));
        worthIs(x, 0, 255, 1);
        worthIs(x, 1, 0, 1);
        CHECK.throwsNoSuch("WORK 2", () -> x.worthOf(2, 0));
        CHECK.throwsNoSuch("WORK -1", () -> x.worthOf(-1, 0));
        CHECK.throwsNoSuch("what 2", () -> x.worthOf(0, 2));
        CHECK.throwsNoSuch("what -1", () -> x.worthOf(0, -1));
        Check.brook(x, "work a;");
        worthIs(x, 0, 255, 1);
        worthIs(x, 1, 0, 1);
        CHECK.eq("one that is NONE", x.worth(-5), -1);
        worthIs(x, 0, 255, 1);
        CHECK.eq("a new one", x.worth(5), 0);
        worthIs(x, 0, 0, 1);
        CHECK.throwsNoSuch("there is no second then", () -> x.worthOf(1, 0));
    }

    /** c makes nothing and only takes away: 1 HOUR, a 1, ab 8, ac 1, abc 1. */
    private static void negativeWorth() {
        WasteBrook x = Check.of("good w 0;work a;gives a w 2;makes a 1;work c 0 0;takes c w 2 99 0;work b;takes b w 2 2 2;makes b 7;");
        CHECK.eq("all", x.worth(2), 2 + 7);
        WasteBrook y = Check.of("good w 0;good v 0;work s;gives s v 1;work a;gives a w 2;makes a 1;work c;takes c w 2 2 0;work b;takes b w 2 2 0;makes b 7;");
        CHECK.eq("all of four", y.worth(2), 2);
        worthIs(y, 0, 0, 1);
        // without c its vat takes the first HOUR's: ab makes 2 + 7, abc 2
        worthIs(y, 2, -7, 3);
        worthIs(y, 3, 7, 6);
        worthIs(y, 1, 2 * 6 + 7, 6);
        WasteBrook eight = Check.of("work a;makes a 1;work b;makes b 2;work c;makes c 3;work d;work e;work f;work g;work h;makes h 99;");
        CHECK.eq("eight", eight.worth(200), 105 * 200);
        worthIs(eight, 7, 19800, 1);
        worthIs(eight, 4, 0, 1);
    }

    private static int kept(WasteBrook x, int n, int... shares) {
        StringBuilder b = new StringBuilder();
        for (int s : shares) {
            b.append((char) (s >> 8)).append((char) (s & 255));
        }
        Check.put(x, b.toString());
        return x.kept(n);
    }

    /** In 10 HOURS: a 10, ac 40, ab 55, abc 40. */
    private static void kept() {
        WasteBrook x = Check.of(CHAIN);
        CHECK.eq("they are", kept(x, 10, 20, 20, 35), -1);
        CHECK.eq("the tape is empty then", x.count(7), 0);
        CHECK.eq("a alone makes more", kept(x, 10, 9, 100, 100), 1);
        CHECK.eq("a and c do", kept(x, 10, 10, 29, 100), 3);
        CHECK.eq("a and b do", kept(x, 10, 10, 30, 44), 5);
        CHECK.eq("just so", kept(x, 10, 10, 30, 45), -1);
        CHECK.eq("all alike", kept(x, 10, 65535, 0, 0), -1);
        CHECK.eq("the least set", kept(x, 10, 0, 0, 0), 1);
        WasteBrook one = Check.of("work a;makes a 2;");
        CHECK.eq("258 by 258", kept(one, 129, 258), -1);
        CHECK.eq("258 by 257", kept(one, 129, 257), 1);
        CHECK.eq("258 by 256", kept(one, 129, 256), 1);
        CHECK.eq("258 by 255", kept(one, 129, 255), 1);
        CHECK.eq("too few", kept(x, 10, 1, 1), -2);
        CHECK.eq("the tape is empty then, too", x.count(7), 0);
        CHECK.eq("too many", kept(x, 10, 1, 1, 1, 1), -2);
        CHECK.eq("none", kept(x, 10), -2);
        CHECK.eq("0 HOURS", kept(x, 0, 1, 1, 1), -2);
        CHECK.eq("and then", x.count(7), 0);
        CHECK.eq("201 HOURS", kept(x, 201, 1, 1, 1), -2);
        CHECK.eq("200 HOURS", kept(x, 200, 200, 65535, 65535), -1);
        CHECK.eq("an odd byte", oddByte(x), -2);
        CHECK.eq("no WORKS, no shares", new WasteBrook().kept(1), -1);
    }

    private static int oddByte(WasteBrook x) {
        Check.put(x, "\u0001\u0001\u0001\u0001\u0001");
        return x.kept(10);
    }

    private static final String STEADY = "good w 1;good v 0;work a;gives a w 4;work b 0 0;takes b w 2 9 9;gives b v 1;work c;takes c w 1 1 1;takes c v 1 1 0;feeds c w 1;"
        + "work d;takes d v 1 5 5;joined;";

    /** a gives 4, 3 come to b, which leaves 1, none of it comes to c, where 1 is fed. */
    private static void steady() {
        WasteBrook x = Check.of(STEADY);
        int[] are = {1, 1, 0, 1, 0, 0, 0, 1, 0, 0, 0, 1, 0, 0, 0, 0};
        for (int set = 0; set < 16; set++) {
            CHECK.eq("steady(" + set + ")", x.steady(set), are[set]);
        }
        CHECK.eq("steady(16)", x.steady(16), -1);
        CHECK.eq("steady(-1)", x.steady(-1), -1);
        CHECK.eq("an empty BROOK", new WasteBrook().steady(0), 1);
    }

    private static void steadies() {
        WasteBrook x = Check.of(STEADY);
        CHECK.eq("how many", x.steadies(-1), 5);
        int[] all = {0, 1, 3, 7, 11};
        for (int k = 0; k < 5; k++) {
            CHECK.eq("steadies(" + k + ")", x.steadies(k), all[k]);
        }
        CHECK.eq("steadies(5)", x.steadies(5), -1);
        CHECK.eq("steadies(-2)", x.steadies(-2), -1);
        CHECK.eq("steadies(least)", x.steadies(Integer.MIN_VALUE), -1);
        WasteBrook y = Check.of("work a;work b;work c;work d;work e;work f;work g;work h;");
        CHECK.eq("all of eight", y.steadies(-1), 256);
        CHECK.eq("the last", y.steadies(255), 255);
    }

    private static void greatest() {
        WasteBrook x = Check.of(STEADY);
        CHECK.eq("of like ones the least", x.greatest(15), 7);
        CHECK.eq("among a, b, d", x.greatest(11), 11);
        CHECK.eq("among b, c, d", x.greatest(14), 0);
        CHECK.eq("among a, c", x.greatest(5), 1);
        CHECK.eq("among none", x.greatest(0), 0);
        CHECK.eq("16", x.greatest(16), -1);
        CHECK.eq("-1", x.greatest(-1), -1);
    }

    private static void falls() {
        WasteBrook x = Check.of(STEADY);
        CHECK.eq("without a", x.falls(0), 6);
        CHECK.eq("without b", x.falls(1), 4);
        CHECK.eq("without c: d comes, none falls", x.falls(2), 0);
        CHECK.eq("d is not of it", x.falls(3), -1);
        WasteBrook free = Check.of("work a;work b;work c;");
        CHECK.eq("nobody falls with who is not needed", free.falls(0) + free.falls(1) + free.falls(2), 0);
        CHECK.eq("WORK 4", x.falls(4), -1);
        CHECK.eq("WORK -1", x.falls(-1), -1);
    }

    private static void fed() {
        WasteBrook x = Check.of(STEADY);
        CHECK.eq("b needs 2 of w", x.fed(2), 20);
        CHECK.eq("c needs 1 of v", x.fed(4), 11);
        CHECK.eq("b and c: of w alone 2", x.fed(6), 20);
        CHECK.eq("c and d: of v alone 2", x.fed(12), 21);
        CHECK.eq("a and c: 1 of v to a", x.fed(5), 11);
        CHECK.eq("a is steady", x.fed(1), 0);
        CHECK.eq("the empty set", x.fed(0), -1);
        CHECK.eq("16", x.fed(16), -1);
        CHECK.eq("-1", x.fed(-1), -1);
        CHECK.eq("b and d need more, d of v, b of w", x.fed(10), 20);
        WasteBrook two = Check.of("good w 0;good v 0;work a;takes a w 1 1 1;takes a v 1 1 1;");
        CHECK.eq("of one GOOD alone it can't be", two.fed(1), -1);
        WasteBrook like = Check.of("good w 0;good v 0;work a;feeds a w 1;takes a w 2 2 2;work b;takes b w 1 1 0;");
        CHECK.eq("a and b", like.fed(3), 20);
        // 9 are lost on each of seven ways, 9 taken by each of the set
        WasteBrook far = Check.of("good w 9;work a;takes a w 9 9 0;work b;work c;work d;work e;work f;work g;work h;takes h w 9 9 0;");
        CHECK.eq("a and h", far.fed(129), 810);
        WasteBrook farther = Check.of("good w 9;work a;takes a w 9 9 0;work b;takes b w 9 9 0;work c;work d;takes d w 9 9 0;work e;work f;work g;takes g w 9 9 0;"
            + "work h;takes h w 9 9 0;");
        CHECK.eq("99: a, b, d and h", farther.fed(139), 990);
        CHECK.eq("108 is too many", farther.fed(203), -1);
    }
}
