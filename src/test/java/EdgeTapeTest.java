/** Promises 1 to 3: each sentence that names a boundary, at it and a step to either side. */
public final class EdgeTapeTest {
    private static final Check CHECK = new Check();
    private static final int BLANKS = 0x20202020;

    private EdgeTapeTest() {
    }

    public static void main(String[] args) {
        promise1AnEmptyBrook();
        promise1AnEmptyTape();
        promise1NothingElseIsThere();
        promise2HighestFirst();
        promise2HowManyItHas();
        promise2IfItWouldHaveMoreThan940();
        promise2NoneCome();
        promise3ItsFirstNBytesAlone();
        promise3IfItHasNotSoMany();
        promise3NBelow0();
        promise3OfAFullTape();
        CHECK.close("EdgeTapeTest");
    }

    /** Promise 1: "An empty BROOK": nothing of it is there, not even what has number 0. */
    private static void promise1AnEmptyBrook() {
        WasteBrook x = new WasteBrook();
        for (int what = 0; what < 7; what++) {
            CHECK.eq("count(" + what + ") of a new object", x.count(what), 0);
        }
        CHECK.throwsNoSuch("work(0, 0)", () -> x.work(0, 0));
        CHECK.eq("at(0, 0, 0)", x.at(0, 0, 0), -1);
        CHECK.eq("loss(0)", x.loss(0), -1);
        CHECK.no("begin()", x.begin());
        CHECK.eq("by(0, 1): nobody makes nothing", x.by(0, 1), 0);
        CHECK.eq("by(1, 1)", x.by(1, 1), -1);
        CHECK.eq("steady(0)", x.steady(0), 1);
        CHECK.eq("steady(1)", x.steady(1), -1);
        CHECK.eq("steadies(NONE)", x.steadies(-1), 1);
        CHECK.eq("steadies(0)", x.steadies(0), 0);
        CHECK.eq("steadies(1)", x.steadies(1), -1);
        CHECK.eq("again(0)", x.again(0), 0);
        CHECK.eq("again(1)", x.again(1), 12);
    }

    /** Promise 1: "an empty tape": it has not one byte, and as it is it is a BROOK of no LINES. */
    private static void promise1AnEmptyTape() {
        WasteBrook x = new WasteBrook();
        CHECK.eq("count(7)", x.count(7), 0);
        CHECK.no("end(1)", x.end(1));
        CHECK.yes("end(0)", x.end(0));
        CHECK.eq("a BROOK", x.brook(), 0);
        CHECK.eq("a PLAN", x.plan(), 0);
        CHECK.eq("no SENTENCE: it ends at 0", x.sentence(), -1);
        CHECK.eq("of kind 1", x.fault(), 1);
    }

    /** Promise 1: what other calls tell ahead of all else. */
    private static void promise1NothingElseIsThere() {
        WasteBrook x = new WasteBrook();
        CHECK.eq("fault()", x.fault(), 0);
        CHECK.eq("kindled()", x.kindled(), -1);
        CHECK.throwsNoSuch("worthOf(0, 0)", () -> x.worthOf(0, 0));
        CHECK.eq("byteAt(0)", x.byteAt(0), -1);
        CHECK.eq("hour()", x.hour(), -1);
        CHECK.eq("said(NONE)", x.said(-1), -1);
        CHECK.no("restore(0)", x.restore(0));
        CHECK.no("restore(1)", x.restore(1));
        WasteBrook y = new WasteBrook();
        Check.brook(x, "work a;");
        CHECK.eq("objects are apart", y.count(1), 0);
    }

    /** Promise 2: "of each number the highest first": where each byte stands, and what two are together. */
    private static void promise2HighestFirst() {
        int[][] lettersAt = {{0x676f6f64, 0x206f2030, 0x3b202020, BLANKS, BLANKS}, {BLANKS, BLANKS, 0x20676f6f, 0x64206f20, 0x393b2020}};
        for (int i = 0; i < 2; i++) {
            WasteBrook x = new WasteBrook();
            int[] n = lettersAt[i];
            x.feed(n[0], n[1], n[2], n[3], n[4]);
            CHECK.eq("a LINE", x.brook(), 1);
            CHECK.eq("LOSS", x.loss(0), i * 9);
        }
        // each number a byte that is no TOKEN in one of its four places, blanks else
        for (int i = 0; i < 20; i++) {
            int[] n = {BLANKS, BLANKS, BLANKS, BLANKS, BLANKS};
            n[i / 4] |= 0xff << 24 - 8 * (i % 4);
            WasteBrook x = new WasteBrook();
            x.feed(n[0], n[1], n[2], n[3], n[4]);
            CHECK.eq("the FAULT is at the byte " + i, x.brook(), -1 - i);
        }
        // a makes 256: shares of 255, 256 and 257, and of the same two bytes the other way round
        int[][] shares = {{0x00ff0000, 1}, {0x01000000, -1}, {0x01010000, -1}, {0x00010000, 1}, {0xff000000, -1}, {0x80000000, -1}};
        for (int[] share : shares) {
            WasteBrook x = Check.of("work a;makes a 2;");
            x.feed(share[0], -1, -1, -1, -1);
            x.end(2);
            CHECK.eq("a share of " + (share[0] >>> 16), x.kept(128), share[1]);
        }
    }

    /** Promise 2: "how many it has": from 20 to 940. */
    private static void promise2HowManyItHas() {
        WasteBrook x = new WasteBrook();
        for (int i = 1; i <= 47; i++) {
            CHECK.eq("feed " + i, x.feed(-1, 0, 1, Integer.MIN_VALUE, Integer.MAX_VALUE), 20 * i);
            CHECK.eq("count(7)", x.count(7), 20 * i);
        }
        WasteBrook y = new WasteBrook();
        y.feed(0, 0, 0, 0, 0);
        y.end(1);
        CHECK.eq("behind 1", y.feed(0, 0, 0, 0, 0), 21);
        y.end(0);
        CHECK.eq("behind 0", y.feed(0, 0, 0, 0, 0), 20);
    }

    private static WasteBrook tapeOf(int bytes) {
        WasteBrook x = new WasteBrook();
        Check.put(x, " ".repeat(bytes));
        return x;
    }

    /** Promise 2: "NONE, and none come, if it would have more than 940": 939 and 940 it may have, 941 not. */
    private static void promise2IfItWouldHaveMoreThan940() {
        int[][] rows = {{918, 938}, {919, 939}, {920, 940}, {921, -1}, {922, -1}, {939, -1}, {940, -1}};
        for (int[] row : rows) {
            WasteBrook x = tapeOf(row[0]);
            CHECK.eq("the tape has " + row[0], x.count(7), row[0]);
            CHECK.eq("feed behind " + row[0], x.feed(1, 2, 3, 4, 5), row[1]);
            CHECK.eq("count(7) then", x.count(7), row[1] < 0 ? row[0] : row[1]);
        }
    }

    /** Promise 2: "and none come": what was there is read as it was, and nothing of what did not come. */
    private static void promise2NoneCome() {
        WasteBrook x = new WasteBrook();
        Check.put(x, "joined;" + " ".repeat(914));
        CHECK.eq("941 would be too many", x.feed(0x676f6f64, 0x3b3b3b3b, 0x3b3b3b3b, 0x3b3b3b3b, 0x3b3b3b3b), -1);
        CHECK.no("no byte 922", x.end(922));
        CHECK.yes("900 of them", x.end(900));
        CHECK.eq("a BROOK still", x.brook(), 1);
        CHECK.eq("joined", x.count(5), 1);
        Twin.same(CHECK, "a feed of a tape of 921", t -> {
            Check.put(t, " ".repeat(921 - Twin.TAPE.length()));
            long answer = t.feed(1, 2, 3, 4, 5);
            t.end(Twin.TAPE.length());
            return answer;
        }, -1);
    }

    /** Promise 3: "The tape has its first n bytes alone: true": none, one, all but one, all. */
    private static void promise3ItsFirstNBytesAlone() {
        String text = "joined;good a 1;work b;makes b 3;";
        for (int n : new int[] {0, 1, text.length() - 1, text.length()}) {
            WasteBrook x = new WasteBrook();
            Check.put(x, text);
            CHECK.yes("end(" + n + ")", x.end(n));
            CHECK.eq("so many", x.count(7), n);
            CHECK.eq("the first of them", x.brook(), n == 0 ? 0 : n == text.length() ? 4 : -1 - (n == 1 ? 0 : n));
        }
        WasteBrook x = new WasteBrook();
        Check.put(x, text);
        x.end(7);
        Check.put(x, "work z;");
        CHECK.eq("what comes is behind them", x.brook(), 2);
        CHECK.eq("no GOOD", x.count(0), 0);
        CHECK.eq("makes nothing", x.work(0, 2), 0);
    }

    /** Promise 3: "false, if it has not so many": one less, just so many, one more. */
    private static void promise3IfItHasNotSoMany() {
        WasteBrook x = tapeOf(20);
        CHECK.no("end(21) of 20", x.end(21));
        CHECK.eq("20 still", x.count(7), 20);
        CHECK.yes("end(20) of 20", x.end(20));
        CHECK.yes("end(19) of 20", x.end(19));
        CHECK.no("end(20) of 19", x.end(20));
        CHECK.eq("19 still", x.count(7), 19);
        WasteBrook y = new WasteBrook();
        CHECK.no("end(1) of none", y.end(1));
        CHECK.yes("end(0) of none", y.end(0));
        int[] more = {Twin.TAPE.length() + 1, 940, 941, Integer.MAX_VALUE};
        for (int n : more) {
            Twin.same(CHECK, "end(" + n + ")", t -> t.end(n) ? 1 : 0, 0);
        }
        Twin.same(CHECK, "end of all", t -> t.end(Twin.TAPE.length()) ? 1 : 0, 1);
    }

    /** Promise 3: "or n is below 0": -1 is, 0 is not. */
    private static void promise3NBelow0() {
        for (int n : new int[] {-1, -2, Integer.MIN_VALUE}) {
            Twin.same(CHECK, "end(" + n + ")", t -> t.end(n) ? 1 : 0, 0);
        }
        Twin.tapeAlone(CHECK, "end(0)", t -> t.end(0) ? 1 : 0, 1);
    }

    /** Promise 3, of the most that a tape can have. */
    private static void promise3OfAFullTape() {
        WasteBrook x = tapeOf(940);
        CHECK.no("end(941)", x.end(941));
        CHECK.yes("end(940)", x.end(940));
        CHECK.yes("end(939)", x.end(939));
        CHECK.no("end(940) then", x.end(940));
        CHECK.eq("939", x.count(7), 939);
    }
}
