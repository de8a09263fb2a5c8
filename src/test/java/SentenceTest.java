/** Promises 39 to 42: texts of the RUN, and SENTENCES. */
public final class SentenceTest {
    private static final Check CHECK = new Check();
    private static final String BROOK = "good w 0;good v 0;work abc;gives abc w 1;makes abc 99;work d;takes d w 1 5 0;gives d v 1;makes d 3;"
        + "work e 1 1;takes e v 1 9 0;work stand;takes stand w 9 9 0;";

    private SentenceTest() {
    }

    public static void main(String[] args) {
        write();
        eachOne();
        joinedOnes();
        asked();
        faults();
        tooMany();
        theMostBytes();
        CHECK.close("SentenceTest");
    }

    private static void text(WasteBrook x, String want) {
        CHECK.eq("write()", x.write(), want.length());
        for (int i = 0; i < want.length(); i++) {
            CHECK.eq("byteAt(" + i + ") of " + want, x.byteAt(i), want.charAt(i));
        }
        CHECK.eq("behind it", x.byteAt(want.length()), -1);
        CHECK.eq("ahead of it", x.byteAt(-1), -1);
        CHECK.eq("far behind it", x.byteAt(Integer.MAX_VALUE), -1);
    }

    private static void write() {
        WasteBrook x = Check.of(BROOK);
        CHECK.eq("without a RUN", x.write(), -1);
        CHECK.eq("no text yet", x.byteAt(0), -1);
        x.begin();
        text(x, "abc 0 0;d 0 0;e 0 0;stand 0 0;");
        x.on(12);
        text(x, "abc 12 1188;d 12 36;e 1 0;stand 0 0;");
        x.on(188);
        text(x, "abc 200 19800;d 200 600;e 17 0;stand 0 0;");
        x.brook();
        CHECK.eq("no RUN", x.write(), -1);
        CHECK.eq("the text made last stays", x.byteAt(4), '2');
        Check.brook(x, "work abcdef;makes abcdef 99;work b;makes b 10;");
        x.begin();
        x.on(101);
        text(x, "abcdef 101 9999;b 101 1010;");
        Check.brook(x, "work z;");
        x.begin();
        text(x, "z 0 0;");
        StringBuilder long8 = new StringBuilder();
        StringBuilder text8 = new StringBuilder();
        for (char c = 'a'; c < 'i'; c++) {
            long8.append("work zyxwv").append(c).append(";makes zyxwv").append(c).append(" 99;");
            text8.append("zyxwv").append(c).append(" 200 19800;");
        }
        Check.brook(x, long8.toString());
        x.begin();
        x.on(200);
        text(x, text8.toString());
    }

    private static void said(String sentence, int ones, int... works) {
        WasteBrook x = Check.run(BROOK, 12);
        CHECK.eq("sentence() of " + sentence, Check.sentence(x, sentence), ones);
        CHECK.eq("fault()", x.fault(), 0);
        CHECK.eq("the tape", x.count(7), 0);
        CHECK.eq("how many: " + sentence, x.said(-1), works.length);
        for (int k = 0; k < works.length; k++) {
            CHECK.eq("said(" + k + ") of " + sentence, x.said(k), works[k]);
        }
        CHECK.eq("none behind them", x.said(works.length), -1);
    }

    /** Behind 12 HOURS: abc went in 12, d in 12, e in 1, stand in none. */
    private static void eachOne() {
        said("wants w", 1, 1, 3);
        said("wants v", 1, 2);
        said("lets w", 1, 0);
        said("lets v", 1, 1);
        said("finds abc", 1, 1, 2);
        said("finds d", 1, 2);
        said("finds stand", 1);
        said("went=12", 1, 0, 1);
        said("went<12", 1, 2, 3);
        said("went>0", 1, 0, 1, 2);
        said("went > 1", 1, 0, 1);
        said("went<1", 1, 3);
        said("stood=11", 1, 2);
        said("stood>11", 1, 3);
        said("stood<11", 1, 0, 1);
        said("made=36", 1, 1);
        said("made>36", 1, 0);
        said("made<36", 1, 2, 3);
        said("made>999", 1, 0);
        said("place=0", 1, 0);
        said("place>1", 1, 2, 3);
        said("place<1", 1, 0);
        said("place<004", 1, 0, 1, 2, 3);
        said("place=999", 1);
    }

    private static void joinedOnes() {
        said("not place=0", 2, 1, 2, 3);
        said("not not place=0", 3, 0);
        said("(place=0)", 2, 0);
        said("((place=0))", 3, 0);
        said("place=0 or place=2", 2, 0, 2);
        said("place>0 and place<3", 2, 1, 2);
        said("place=0 or place>0 and place=2", 3, 0, 2);
        said("place=2 and place>0 or place=0", 3, 0, 2);
        said("(place=0 or place>0) and place=2", 4, 2);
        said("not place=0 and place<2", 3, 1);
        said("not (place=0 and place<2)", 4, 1, 2, 3);
        said("not place=0 or place=0", 3, 0, 1, 2, 3);
        said("place=3 or place=1 or place=0 and place=0", 4, 0, 1, 3);
        said("place=3 and place=3 and place=0 or place=1 and not(place=2 or place=3)", 8, 1);
        said("not(not(place=1)or not(place=1))\n", 8, 1);
    }

    private static void asked() {
        WasteBrook x = Check.of(BROOK);
        CHECK.eq("no SENTENCE, no RUN", x.said(-1), -1);
        x.begin();
        CHECK.eq("no SENTENCE", x.said(-1), -1);
        Check.sentence(x, "went=0");
        CHECK.eq("all at first", x.said(-1), 4);
        CHECK.eq("k -2", x.said(-2), -1);
        CHECK.eq("k least", x.said(Integer.MIN_VALUE), -1);
        CHECK.eq("k 4", x.said(4), -1);
        x.on(1);
        CHECK.eq("by the RUN now", x.said(-1), 2);
        for (int i = 0; i < 4; i++) {
            CHECK.eq("another", Check.sentence(x, "place=" + i + " or wants w and wants v".repeat(8)), 17);
            CHECK.eq("is said instead", x.said(0), i);
        }
        Check.sentence(x, "went=0");
        CHECK.eq("a FAULT", Check.sentence(x, "went=0 or"), -10);
        CHECK.eq("it stays", x.said(0), 2);
        Check.brook(x, BROOK);
        Check.sentence(x, "place=1");
        CHECK.eq("no RUN", x.said(-1), -1);
        x.begin();
        CHECK.eq("now there is", x.said(0), 1);
    }

    private static void fault(String text, int place, int kind) {
        WasteBrook x = Check.run(BROOK, 1);
        Check.sentence(x, "place<3");
        CHECK.eq("sentence() of " + text, Check.sentence(x, text), -1 - place);
        CHECK.eq("fault() of " + text, x.fault(), kind);
        CHECK.eq("it stays", x.said(-1), 3);
        CHECK.eq("the tape", x.count(7), 0);
    }

    private static void faults() {
        fault("", 0, 1);
        fault("  ", 2, 1);
        fault("went", 4, 1);
        fault("went=", 5, 1);
        fault("went=x", 5, 1);
        fault("went=1000", 5, 1);
        fault("went<=1", 5, 1);
        fault("went 1", 5, 1);
        fault("went;1", 4, 1);
        fault("went(1", 4, 1);
        fault("gone=1", 0, 1);
        fault("wants", 5, 1);
        fault("wants 1", 6, 1);
        fault("wants z", 6, 3);
        fault("wants d", 6, 3);
        fault("wants not", 6, 1);
        fault("lets abc", 5, 3);
        fault("lets x", 5, 3);
        fault("finds w", 6, 3);
        fault("finds f", 6, 3);
        fault("finds (", 6, 1);
        fault("place=1 place=2", 8, 1);
        fault("place=0or place=1", 6, 1);
        fault("place=1;", 7, 1);
        fault("place=1)", 7, 1);
        fault("(place=1", 8, 1);
        fault("()", 1, 1);
        fault("not", 3, 1);
        fault("not or", 4, 1);
        fault("or place=1", 0, 1);
        fault("place=1 and", 11, 1);
        fault("place=1 or and place=1", 11, 1);
        fault("stops d 1 2;", 0, 1);
    }

    private static void tooMany() {
        String twenty = "place=1" + " or went=1".repeat(19);
        fault(twenty + " or ", 200, 1);
        String bare = "lets w" + " or lets w".repeat(18);
        CHECK.eq("nineteen", bare.length(), 186);
        WasteBrook x = Check.of(BROOK);
        CHECK.eq("twenty ONES", Check.sentence(x, "not " + bare), 20);
        CHECK.eq("twenty, most of them 'not'", Check.sentence(x, "went=1 or not not not not not not not went=1 or not not not not not not not went=1 and not not lets v"), 20);
        fault("not not " + bare, 8 + 180, 4);
        fault("(not " + bare + ")", 5 + 180, 4);
        fault("not not " + bare.substring(0, 180) + "or", 188, 1);
        fault("not not " + bare.substring(0, 180) + "(", 188, 4);
        fault("not not " + bare.substring(0, 180) + "not", 188, 4);
        CHECK.eq("eight within one another", Check.sentence(x, "not not not not not not not went=1"), 8);
        CHECK.eq("of brackets, too", Check.sentence(x, "(((((((went=1)))))))"), 8);
        CHECK.eq("many such", Check.sentence(x, "(((((((went=1))))))) or not(not(not(not went=1)))"), 16);
        fault("not not not not not not not not went=1", 32, 4);
        fault("((((((((went=1))))))))", 8, 4);
        fault("((((((((((", 8, 4);
        fault("(((((((()", 8, 1);
        fault("(not(not(not(not(went=1)))))", 16, 4);
        fault("((((((((or", 8, 1);
    }

    private static void theMostBytes() {
        WasteBrook x = Check.of(BROOK);
        CHECK.eq("200 bytes", Check.sentence(x, " ".repeat(193) + "place=1"), 1);
        CHECK.eq("200 bytes", Check.sentence(x, "place=1" + " ".repeat(193)), 1);
        fault("place=1" + " ".repeat(194), 200, 1);
        fault(" ".repeat(194) + "place=1", 200, 1);
        fault(" ".repeat(195) + "wants wx", 200, 1);
        fault(" ".repeat(193) + "wants wx", 199, 3);
        fault(" ".repeat(194) + "place=12", 200, 1);
        fault(" ".repeat(193) + "place=1000", 199, 1);
    }
}
