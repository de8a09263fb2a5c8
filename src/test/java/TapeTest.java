/** Promises 1 to 3, and of 45 what is told of the tape. */
public final class TapeTest {
    private static final Check CHECK = new Check();

    private TapeTest() {
    }

    public static void main(String[] args) {
        aNewObjectIsEmpty();
        feedPutsTwentyBytes();
        theTapeHoldsAtMost940();
        endKeepsTheFirst();
        bytesAreInOrder();
        CHECK.close("TapeTest");
    }

    private static void aNewObjectIsEmpty() {
        WasteBrook x = new WasteBrook();
        for (int what = 0; what < 8; what++) {
            CHECK.eq("count(" + what + ") of a new object", x.count(what), 0);
        }
        CHECK.eq("count(8)", x.count(8), -1);
        CHECK.eq("count(-1)", x.count(-1), -1);
        CHECK.eq("count(least)", x.count(Integer.MIN_VALUE), -1);
        CHECK.eq("count(largest)", x.count(Integer.MAX_VALUE), -1);
        CHECK.eq("fault ahead of any", x.fault(), 0);
        CHECK.eq("kindled ahead of any", x.kindled(), -1);
        CHECK.eq("hour without a RUN", x.hour(), -1);
        CHECK.no("restore(0)", x.restore(0));
        CHECK.no("restore(1)", x.restore(1));
        CHECK.eq("byteAt(0)", x.byteAt(0), -1);
        CHECK.eq("an empty text is an empty BROOK", x.brook(), 0);
        CHECK.eq("no WORKS", x.count(1), 0);
        CHECK.eq("NONE", WasteBrook.NONE, -1);
    }

    private static void feedPutsTwentyBytes() {
        WasteBrook x = new WasteBrook();
        CHECK.eq("first", x.feed(0, 0, 0, 0, 0), 20);
        CHECK.eq("second", x.feed(-1, -1, -1, -1, -1), 40);
        CHECK.eq("count", x.count(7), 40);
    }

    private static void theTapeHoldsAtMost940() {
        WasteBrook x = new WasteBrook();
        for (int i = 1; i <= 47; i++) {
            CHECK.eq("feed " + i, x.feed(1, 2, 3, 4, 5), 20 * i);
        }
        CHECK.eq("the 48th", x.feed(1, 2, 3, 4, 5), -1);
        CHECK.eq("none came", x.count(7), 940);
        CHECK.yes("end(921)", x.end(921));
        CHECK.eq("941 would be too many", x.feed(1, 2, 3, 4, 5), -1);
        CHECK.eq("none came", x.count(7), 921);
        CHECK.yes("end(920)", x.end(920));
        CHECK.eq("940 are not too many", x.feed(1, 2, 3, 4, 5), 940);
    }

    private static void endKeepsTheFirst() {
        WasteBrook x = new WasteBrook();
        CHECK.yes("end(0) of an empty tape", x.end(0));
        CHECK.no("end(1) of an empty tape", x.end(1));
        x.feed(1, 2, 3, 4, 5);
        CHECK.no("end(21)", x.end(21));
        CHECK.no("end(-1)", x.end(-1));
        CHECK.no("end(least)", x.end(Integer.MIN_VALUE));
        CHECK.eq("nothing changed", x.count(7), 20);
        CHECK.yes("end(20)", x.end(20));
        CHECK.eq("still 20", x.count(7), 20);
        CHECK.yes("end(7)", x.end(7));
        CHECK.eq("7 now", x.count(7), 7);
        CHECK.no("those behind are gone", x.end(8));
        CHECK.eq("feed goes on there", x.feed(1, 2, 3, 4, 5), 27);
    }

    /** "good" "  ab" " 3;\n" is a BROOK only if the highest byte of each number comes first. */
    private static void bytesAreInOrder() {
        WasteBrook x = new WasteBrook();
        x.feed(0x676f6f64, 0x20206162, 0x20333b0a, 0x20202020, 0x0a0a0a0a);
        CHECK.eq("one LINE", x.brook(), 1);
        CHECK.eq("its LOSS", x.loss(0), 3);
        CHECK.eq("the tape is empty then", x.count(7), 0);
        CHECK.eq("a share of 65535 is one", shareOf(0xffff0000), -1);
        CHECK.eq("of 1, the lower byte behind", shareOf(0x00010000), 1);
        CHECK.eq("of 256, the higher byte ahead", shareOf(0x01000000), -1);
    }

    /** What kept() tells of one WORK that makes 200 in the time. */
    private static int shareOf(int number) {
        WasteBrook x = Check.of("work a;makes a 20;");
        x.feed(number, 0, 0, 0, 0);
        x.end(2);
        return x.kept(10);
    }
}
