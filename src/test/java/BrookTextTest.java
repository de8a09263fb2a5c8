/** Promises 4 to 8, and what 45 tells of the BROOK: texts and their FAULTS. */
public final class BrookTextTest {
    private static final Check CHECK = new Check();
    private static final String FIVE = "good a 0;good b 9;work p;work q 3 7;takes p a 2 5 4;";

    private BrookTextTest() {
    }

    public static void main(String[] args) {
        whatIsToldIsTold();
        blanksAndTokens();
        reservedWords();
        numbers();
        names();
        tooMany();
        cutShort();
        theMostBytes();
        whatWasCutOff();
        aFaultChangesNothing();
        aNewBrookHasNothing();
        CHECK.close("BrookTextTest");
    }

    private static void fault(String text, int place, int kind) {
        WasteBrook x = new WasteBrook();
        CHECK.eq("brook() of " + text, Check.brook(x, text), -1 - place);
        CHECK.eq("fault() of " + text, x.fault(), kind);
        CHECK.eq("the tape behind " + text, x.count(7), 0);
    }

    private static void fine(String text, int lines) {
        WasteBrook x = new WasteBrook();
        CHECK.eq("brook() of " + text, Check.brook(x, text), lines);
        CHECK.eq("fault() of " + text, x.fault(), 0);
    }

    private static void whatIsToldIsTold() {
        WasteBrook x = Check.of(FIVE + "takes q b 9 99 99;gives p b 3;gives p a 1;makes q 99;feeds q a 9;feeds p b 1;feeds p a 2;joined;");
        int[] counts = {2, 2, 2, 2, 3, 1, 0, 0};
        for (int what = 0; what < 8; what++) {
            CHECK.eq("count(" + what + ")", x.count(what), counts[what]);
        }
        int[][] work = {{0, 11, 0, 1, 3, 3}, {3, 7, 99, 2, 0, 1}};
        for (int w = 0; w < 2; w++) {
            for (int what = 0; what < 6; what++) {
                CHECK.eq("work(" + w + ", " + what + ")", x.work(w, what), work[w][what]);
            }
        }
        int[][][] at = {{{2, 5, 4, 1, 2}, {0, 0, 0, 3, 1}}, {{0, 0, 0, 0, 9}, {9, 99, 99, 0, 0}}};
        for (int w = 0; w < 2; w++) {
            for (int g = 0; g < 2; g++) {
                for (int what = 0; what < 5; what++) {
                    CHECK.eq("at(" + w + ", " + g + ", " + what + ")", x.at(w, g, what), at[w][g][what]);
                }
            }
        }
        CHECK.eq("loss(0)", x.loss(0), 0);
        CHECK.eq("loss(1)", x.loss(1), 9);
        wrongArguments(x);
    }

    private static void wrongArguments(WasteBrook x) {
        int[] odd = {-1, 2, Integer.MIN_VALUE, Integer.MAX_VALUE};
        for (int i : odd) {
            CHECK.throwsNoSuch("work(" + i + ", 0)", () -> x.work(i, 0));
            CHECK.eq("at(" + i + ", 0, 0)", x.at(i, 0, 0), -1);
            CHECK.eq("at(0, " + i + ", 0)", x.at(0, i, 0), -1);
            CHECK.eq("loss(" + i + ")", x.loss(i), -1);
        }
        CHECK.throwsNoSuch("work(0, 6)", () -> x.work(0, 6));
        CHECK.throwsNoSuch("work(0, -1)", () -> x.work(0, -1));
        CHECK.throwsNoSuch("work of an empty BROOK", () -> new WasteBrook().work(0, 0));
        CHECK.eq("at(0, 0, 5)", x.at(0, 0, 5), -1);
        CHECK.eq("at(0, 0, -1)", x.at(0, 0, -1), -1);
    }

    private static void blanksAndTokens() {
        fine("", 0);
        fine(" \n ", 0);
        fine("good\na\n0;", 1);
        fine("  good a 0 ;\n\n joined;work\nx;", 3);
        fine("good abcdef 007;", 1);
        fault("good\ta 0;", 4, 1);
        fault("gooda 0;", 0, 1);
        fault("good abcdefg 0;", 5, 1);
        fault("good a1 0;", 5, 1);
        fault("good 1a 0;", 5, 1);
        fault("good a 0000;", 7, 1);
        fault("good A 0;", 5, 1);
        fault("good a 0x;", 7, 1);
        fault("good a 0.", 8, 1);
        fault("good a -1;", 7, 1);
        fault("good \u00e9 0;", 5, 1);
        fault("good a 0;;", 9, 1);
        fault(";", 0, 1);
        fault("5;", 0, 1);
        fault("(joined);", 0, 1);
        fault("joined now;", 7, 1);
    }

    private static void reservedWords() {
        String[] all = {"good", "work", "takes", "gives", "makes", "feeds", "joined", "stops", "brings", "or", "and",
            "not", "wants", "lets", "finds", "went", "stood", "made", "place"};
        for (String word : all) {
            fault("good " + word + " 0;", 5, 1);
            fault("work " + word + ";", 5, 1);
            fault(FIVE + "makes " + word + " 1;", FIVE.length() + 6, 1);
            fault(FIVE + "gives p " + word + " 1;", FIVE.length() + 8, 1);
        }
        String[] no = {"stops", "brings", "or", "and", "not", "wants", "lets", "finds", "went", "stood", "made", "place", "loss"};
        for (String word : no) {
            fault(word + " p 1 2;", 0, 1);
        }
        fine("good goods 0;good hours 1;work on;work ors;work mad;", 5);
    }

    private static void numbers() {
        fine("good a 9;", 1);
        fault("good a 10;", 7, 2);
        fault("good a 999;", 7, 2);
        fine("work p 11 11;", 1);
        fine("work p 0 0;", 1);
        fault("work p 12 12;", 7, 2);
        fault("work p 5 12;", 9, 2);
        fault("work p 5 4;", 9, 2);
        fault("work p 5;", 8, 1);
        int n = FIVE.length();
        fine(FIVE + "takes p b 1 1 1;", 6);
        fault(FIVE + "takes p b 0 1 1;", n + 10, 2);
        fault(FIVE + "takes p b 10 11 1;", n + 10, 2);
        fault(FIVE + "takes p b 3 2 1;", n + 12, 2);
        fault(FIVE + "takes p b 3 100 1;", n + 12, 2);
        fault(FIVE + "takes p b 3 4 5;", n + 14, 2);
        fine(FIVE + "takes p b 3 4 0;", 6);
        fault(FIVE + "gives p a 0;", n + 10, 2);
        fault(FIVE + "gives p a 10;", n + 10, 2);
        fault(FIVE + "feeds p a 0;", n + 10, 2);
        fault(FIVE + "feeds p a 10;", n + 10, 2);
        fault(FIVE + "makes p 0;", n + 8, 2);
        fault(FIVE + "makes p 100;", n + 8, 2);
        fault(FIVE + "makes p a;", n + 8, 1);
    }

    private static void names() {
        int n = FIVE.length();
        fault("good a 0;good a 1;", 14, 3);
        fault("good a 0;work a;", 14, 3);
        fault("work a;good a 1;", 12, 3);
        fault("work a;work a 0 99;", 12, 3);
        fault(FIVE + "takes x a 1 1 1;", n + 6, 3);
        fault(FIVE + "takes a a 1 1 1;", n + 6, 3);
        fault(FIVE + "takes p p 1 1 1;", n + 8, 3);
        fault(FIVE + "takes p x 1 1 1;", n + 8, 3);
        fault(FIVE + "takes p a 1 1 1;", n + 8, 3);
        fine(FIVE + "gives p a 1;feeds p a 1;gives q a 1;gives p b 1;", 9);
        fault(FIVE + "gives p a 1;gives p a 1;", n + 20, 3);
        fault(FIVE + "feeds p a 1;feeds p a 99;", n + 20, 3);
        fault(FIVE + "makes p 1;makes p 2;", n + 16, 3);
        fault(FIVE + "makes a 1;", n + 6, 3);
        fault("makes p 1;work p;", 6, 3);
        fault("joined;joined;", 7, 3);
        fault("joined;joined", 7, 3);
    }

    private static void tooMany() {
        String goods = "good a 0;good b 0;good c 0;good d 0;good e 0;good f 0;";
        String works = "work p;work q;work r;work s;work t;work u;work v;work w;";
        fine(goods + works, 14);
        fault(goods + "good g 0;", 54, 4);
        fault(goods + "good a 99;", 54, 4);
        fault(goods + "\n good", 56, 4);
        fault(works + "work x;", 56, 4);
        fault(works + "work p;", 56, 4);
    }

    private static void cutShort() {
        String whole = "good a 0;work p 0 1;takes p a 1 1 1;joined;";
        fine(whole, 4);
        int[] ends = {9, 20, 36, 43};
        for (int n = 1; n < whole.length(); n++) {
            boolean isEnd = n == ends[0] || n == ends[1] || n == ends[2];
            String cut = whole.substring(0, n);
            WasteBrook x = new WasteBrook();
            int got = Check.brook(x, cut);
            CHECK.eq("whether it can end so: " + cut, got >= 0 ? 1 : 0, isEnd ? 1 : 0);
        }
        fault("good", 4, 1);
        fault("good ", 5, 1);
        fault("good a", 6, 1);
        fault("good a 0", 8, 1);
        fault("good a 0 \n ", 11, 1);
        fault("work p 1", 8, 1);
        fault("joined", 6, 1);
    }

    private static void theMostBytes() {
        fine("good a 0;" + " ".repeat(891), 1);
        fault("good a 0;" + " ".repeat(892), 900, 1);
        fault("good a 0;" + " ".repeat(920), 900, 1);
        fine(" ".repeat(891) + "good a 0;", 1);
        fault(" ".repeat(892) + "good a 0;", 900, 1);
        fault(" ".repeat(896) + "good a 0;", 900, 1);
        fault(" ".repeat(895) + "good a 0;", 900, 1);
        fault(" ".repeat(893) + "good a 9;", 900, 1);
        fault(" ".repeat(892) + "good a 10;", 899, 2);
        fault(" ".repeat(893) + "good a 10;", 900, 1);
        fault(" ".repeat(898) + "goods", 898, 1);
        fault(" ".repeat(899) + "joined;", 900, 1);
        fault(" ".repeat(900) + "?", 900, 1);
        fault(" ".repeat(899) + "?", 899, 1);
        fault("joined;" + " ".repeat(892) + "joined;", 899, 3);
        fault("good" + " ".repeat(896), 900, 1);
        fault("good" + " ".repeat(890), 894, 1);
    }

    /** Bytes that end() took away are no part of the text. */
    private static void whatWasCutOff() {
        WasteBrook x = new WasteBrook();
        Check.put(x, "good     ;;;;");
        x.end(5);
        CHECK.eq("the end of what is left", x.brook(), -6);
        Check.put(x, "joined;;;;;;");
        x.end(7);
        CHECK.eq("one LINE", x.brook(), 1);
        CHECK.eq("no FAULT any more", x.fault(), 0);
        Check.put(x, "goodabc");
        x.end(4);
        CHECK.eq("a WORD that was cut", x.brook(), -5);
        CHECK.eq("its FAULT", x.fault(), 1);
        CHECK.eq("an empty PLAN", x.plan(), 0);
        CHECK.eq("has none", x.fault(), 0);
    }

    private static void aFaultChangesNothing() {
        WasteBrook x = Check.of(FIVE + "gives q a 2;joined;");
        Check.plan(x, "stops p 0 1;");
        Check.sentence(x, "place=0");
        x.begin();
        x.on(3);
        CHECK.eq("a FAULT", Check.brook(x, "good a 0;work b;good"), -21);
        CHECK.eq("its kind", x.fault(), 1);
        CHECK.eq("GOODS stay", x.count(0), 2);
        CHECK.eq("WORKS stay", x.count(1), 2);
        CHECK.eq("'gives' stay", x.count(3), 1);
        CHECK.eq("joined stays", x.count(5), 1);
        CHECK.eq("the PLAN stays", x.count(6), 1);
        CHECK.eq("the RUN stays", x.hour(), 3);
        CHECK.eq("the SENTENCE stays", x.said(-1), 1);
        CHECK.eq("LOSS stays", x.loss(1), 9);
    }

    private static void aNewBrookHasNothing() {
        WasteBrook x = Check.of(FIVE + "joined;");
        Check.plan(x, "stops p 0 1;");
        Check.sentence(x, "place=0");
        x.begin();
        CHECK.eq("another", Check.brook(x, "good z 1;work y;gives y z 1;"), 3);
        CHECK.eq("no RUN", x.hour(), -1);
        CHECK.eq("no PLAN", x.count(6), 0);
        CHECK.eq("not joined", x.count(5), 0);
        CHECK.eq("no vats", x.count(2), 0);
        int[] at = {0, 0, 0, 1, 0};
        for (int what = 0; what < 5; what++) {
            CHECK.eq("at(0, 0, " + what + ")", x.at(0, 0, what), at[what]);
        }
        CHECK.eq("0 11 without", x.work(0, 0) * 100 + x.work(0, 1), 11);
        x.begin();
        CHECK.eq("no SENTENCE", x.said(-1), -1);
        CHECK.eq("an empty one", x.brook(), 0);
        CHECK.eq("no GOODS", x.count(0), 0);
        CHECK.no("no RUN can begin", x.begin());
        CHECK.eq("no RUN", x.hour(), -1);
    }
}
