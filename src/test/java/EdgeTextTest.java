/**
 * Promise 4, with what 'Terms' say of TOKENS, a BROOK and its FAULTS, which brook() answers: each sentence
 * that names a boundary, at it and a step to either side.
 */
public final class EdgeTextTest {
    private static final Check CHECK = new Check();
    /** 63 bytes. */
    private static final String TOLD = "good g 0;good h 0;work a;work b 3 7;takes a g 2 9 9;gives a g 1;";
    private static final int N = TOLD.length();

    private EdgeTextTest() {
    }

    public static void main(String[] args) {
        tokensBlanks();
        tokensWordsOf1To6();
        tokensNumbersOf1To3();
        tokensSmallLettersAlone();
        tokensSigns();
        tokensGoOnAsLongAs();
        brookOfNoLines();
        brookOf900Bytes();
        tokensAheadOfTheMostAreReadWhole();
        lossOf0To9();
        hoursOf0To11();
        tillNoLessThanFrom();
        zeroElevenWithout();
        takesOf1To9();
        sizeFromNTo99();
        hasOf0ToSize();
        givesOf1To9();
        makesOf1To99();
        feedsOf1To9();
        eachWorkAndGoodOnce();
        makesOfEachWorkOnce();
        joinedOnce();
        nameNoneOfThoseTold();
        nameToldOnce();
        nameIsToldAheadOfItsUse();
        sixGoodsAtMost();
        eightWorksAtMost();
        fault1AtTheEnd();
        faultsTheFirstAlongTheText();
        faultsOfOneTokenTheLeast();
        promise4TheTapeIsEmptyThen();
        promise4HowManyLines();
        promise4MinusOneLessThePlace();
        promise4ItStays();
        promise4NoRunNoPlanNoSentence();
        CHECK.close("EdgeTextTest");
    }

    private static void fault(String text, int place, int kind) {
        WasteBrook x = new WasteBrook();
        CHECK.eq("brook() of " + text, Check.brook(x, text), -1 - place);
        CHECK.eq("fault() of " + text, x.fault(), kind);
        CHECK.eq("the tape behind " + text, x.count(7), 0);
    }

    private static WasteBrook fine(String text, int lines) {
        WasteBrook x = new WasteBrook();
        CHECK.eq("brook() of " + text, Check.brook(x, text), lines);
        CHECK.eq("fault() of " + text, x.fault(), 0);
        CHECK.eq("the tape behind " + text, x.count(7), 0);
        return x;
    }

    /** TOKENS: "with blanks (32, 10) between them or not": 9, 11, 31 and 33 are none. */
    private static void tokensBlanks() {
        for (int b = 0; b < 256; b++) {
            boolean letterOrDigit = b >= '0' && b <= '9' || b >= 'a' && b <= 'z';
            if (b == 32 || b == 10) {
                fine((char) b + "joined" + (char) b + ";" + (char) b, 1);
            } else if (b == ';') {
                fault("joined;;", 7, 1);
            } else {
                fault((char) b + "joined;", 0, 1);
                fault("joined" + (char) b + ";", letterOrDigit ? 0 : 6, 1);
                fault("joined;" + (char) b, 7, 1);
            }
        }
        fine("good g 0;work a 1 2;", 2);
        fine("good\ng\n\n0\n;\nwork \n a 1\n2 ;\n\n", 2);
    }

    /** TOKENS: "WORDS: small letters, 1 to 6". */
    private static void tokensWordsOf1To6() {
        fine("work a;", 1);
        fine("work abcde;", 1);
        fine("work abcdef;", 1);
        fault("work abcdefg;", 5, 1);
        fault("work abcdefgabcdefgabcdefgabcdefgabcdefgabcdefg;", 5, 1);
        fine("work a;work aa;work aaa;work aaaa;work aaaaa;work aaaaaa;", 6);
        fine("work a;work z;work az;work za;work zzzzzz;work zzzzz;", 6);
        fault("work aaaaaa;work aaaaaaa;", 17, 1);
        fault("joinedd;", 0, 1);
        fault("joine;", 0, 1);
    }

    /** TOKENS: "NUMBERS: 1 to 3 digits". */
    private static void tokensNumbersOf1To3() {
        CHECK.eq("one", fine("good g 9;", 1).loss(0), 9);
        CHECK.eq("two", fine("good g 09;", 1).loss(0), 9);
        CHECK.eq("three", fine("good g 009;", 1).loss(0), 9);
        fault("good g 0009;", 7, 1);
        fault("good g 0000;", 7, 1);
        fault("good g 999;", 7, 2);
        fault("good g 1000;", 7, 1);
        fault("good g 4294967296;", 7, 1);
        fault("good g 99999999999999999999999999;", 7, 1);
    }

    /** TOKENS: small letters and digits alone: those next to a, z, 0 and 9 are none. */
    private static void tokensSmallLettersAlone() {
        char[] next = {'`', '{', '/', ':', 'A', 'Z', '@', '[', '_', '-', '+', ',', '.', (char) 223, (char) 225, (char) 255, 0};
        for (char c : next) {
            fault("work " + c + ";", 5, 1);
            fault("work a" + c + ";", 6, 1);
            fault("good g " + c + ";", 7, 1);
            fault("good g 1" + c + ";", 8, 1);
        }
        fine("work abz;good zab 0;good g 9;good h 0;", 4);
    }

    /** TOKENS: "; < = > ( ) .": those that can't come where they are told, at them. */
    private static void tokensSigns() {
        for (char c : "<=>().".toCharArray()) {
            fault("" + c, 0, 1);
            fault("joined" + c, 6, 1);
            fault("joined " + c + ";", 7, 1);
            fault("work " + c + ";", 5, 1);
            fault("good g " + c + ";", 7, 1);
        }
        fault(";", 0, 1);
        fault("joined;;", 7, 1);
        fault("work;", 4, 1);
        fault("good g;", 6, 1);
    }

    /** TOKENS: "A WORD, NUMBER goes on as long as small letters and digits do". */
    private static void tokensGoOnAsLongAs() {
        fault("good g 0a;", 7, 1);
        fault("good g0;", 5, 1);
        fault("good g 0 0;", 9, 1);
        fault("worka;", 0, 1);
        fault("work a1 2;", 5, 1);
        fault("work a 1a 2;", 7, 1);
        fault("work a 12;", 7, 2);
        fault("9work a;", 0, 1);
        fine("work a;work b;", 2);
        fine(" work a ;work b ;", 2);
    }

    /** BROOK: "{ LINE ; }": none is one. */
    private static void brookOfNoLines() {
        fine("", 0);
        fine(" ", 0);
        fine("\n", 0);
        fine(" ".repeat(900), 0);
        fault(" ".repeat(901), 900, 1);
        fault(";", 0, 1);
    }

    /** BROOK: "a text of at most 900 bytes": 899, 900 and 901 of them. */
    private static void brookOf900Bytes() {
        fine("joined;" + " ".repeat(892), 1);
        fine("joined;" + " ".repeat(893), 1);
        fault("joined;" + " ".repeat(894), 900, 1);
        fault("joined;" + " ".repeat(933), 900, 1);
        fine(" ".repeat(892) + "joined;", 1);
        fine(" ".repeat(893) + "joined;", 1);
        fault(" ".repeat(894) + "joined;", 900, 1);
        fault(" ".repeat(893) + "joined; ", 900, 1);
        fault(" ".repeat(893) + "joined;;", 900, 1);
    }

    /** FAULTS: "TOKENS that begin ahead of it are read whole", one that begins at it is not. */
    private static void tokensAheadOfTheMostAreReadWhole() {
        fault(" ".repeat(899) + "joined;", 900, 1);
        fault(" ".repeat(899) + "joinedd;", 899, 1);
        fault(" ".repeat(900) + "joinedd;", 900, 1);
        fault(" ".repeat(899) + "j", 899, 1);
        fault(" ".repeat(899) + "jo", 899, 1);
        fault("good g" + " ".repeat(893) + "9;", 900, 1);
        fault("good g" + " ".repeat(893) + "10;", 899, 2);
        fault("good g" + " ".repeat(893) + "9x;", 899, 1);
        fault("good g" + " ".repeat(893) + "10", 899, 2);
        fault("good g" + " ".repeat(894) + "10;", 900, 1);
        fault("joined;" + " ".repeat(892) + "joined;", 899, 3);
        fault("joined;" + " ".repeat(893) + "joined;", 900, 1);
        fault("joined;" + " ".repeat(892) + "?", 899, 1);
        fault("joined;" + " ".repeat(893) + "?", 900, 1);
        fault("joined;?" + " ".repeat(900), 7, 1);
        fault("good g 10;" + " ".repeat(900), 7, 2);
    }

    /** BROOK: "'good' NAME LOSS (0 to 9)". */
    private static void lossOf0To9() {
        for (int loss = 0; loss <= 9; loss++) {
            CHECK.eq("LOSS", fine("good g " + loss + ";", 1).loss(0), loss);
        }
        fault("good g 10;", 7, 2);
        fault("good g 010;", 7, 2);
        fault("good g 11;", 7, 2);
        fault("good g 999;", 7, 2);
    }

    /** BROOK: "hours 0 to 11". */
    private static void hoursOf0To11() {
        int[][] rows = {{0, 0}, {0, 11}, {11, 11}, {1, 10}, {10, 11}};
        for (int[] row : rows) {
            WasteBrook x = fine("work a " + row[0] + " " + row[1] + ";", 1);
            CHECK.eq("FROM", x.work(0, 0), row[0]);
            CHECK.eq("TILL", x.work(0, 1), row[1]);
        }
        fault("work a 12 12;", 7, 2);
        fault("work a 12 11;", 7, 2);
        fault("work a 12;", 7, 2);
        fault("work a 11 12;", 10, 2);
        fault("work a 0 12;", 9, 2);
        fault("work a 0 100;", 9, 2);
    }

    /** BROOK: "TILL no less than FROM": one less, alike, one more. */
    private static void tillNoLessThanFrom() {
        for (int from = 1; from <= 10; from++) {
            String ahead = "work a " + from + " ";
            fault(ahead + (from - 1) + ";", ahead.length(), 2);
            CHECK.eq("alike", fine(ahead + from + ";", 1).work(0, 1), from);
            CHECK.eq("one more", fine(ahead + (from + 1) + ";", 1).work(0, 1), from + 1);
        }
        fault("work a 11 10;", 10, 2);
        fault("work a 11 0;", 10, 2);
    }

    /** BROOK: "0 11 without"; one of the two alone can't be. */
    private static void zeroElevenWithout() {
        WasteBrook x = fine("work b 3 4;work a;work c 5 5;", 3);
        CHECK.eq("FROM", x.work(1, 0), 0);
        CHECK.eq("TILL", x.work(1, 1), 11);
        fault("work a 0;", 8, 1);
        fault("work a 0 0 0;", 11, 1);
        Check.brook(x, "work c 2 9;work b 2 9;");
        Check.brook(x, "work c;work b;");
        CHECK.eq("nothing is left of what was told", x.work(0, 0) * 100 + x.work(1, 1), 11);
    }

    /** BROOK: "'takes' WORK GOOD N SIZE HAS (1 to 9": 0 and 10 are not. */
    private static void takesOf1To9() {
        fault(TOLD + "takes b h 0 9 0;", N + 10, 2);
        for (int n = 1; n <= 9; n++) {
            CHECK.eq("N", fine(TOLD + "takes b h " + n + " 9 0;", 7).at(1, 1, 0), n);
        }
        fault(TOLD + "takes b h 10 10 0;", N + 10, 2);
        fault(TOLD + "takes b h 000 9 0;", N + 10, 2);
    }

    /** BROOK: "SIZE N to 99": one less than N, N, one more; 98, 99, 100. */
    private static void sizeFromNTo99() {
        for (int n = 1; n <= 9; n++) {
            String ahead = TOLD + "takes b h " + n + " ";
            fault(ahead + (n - 1) + " 0;", N + 12, 2);
            CHECK.eq("SIZE N", fine(ahead + n + " 0;", 7).at(1, 1, 1), n);
            CHECK.eq("SIZE N and 1", fine(ahead + (n + 1) + " 0;", 7).at(1, 1, 1), n + 1);
            CHECK.eq("SIZE 98", fine(ahead + "98 0;", 7).at(1, 1, 1), 98);
            CHECK.eq("SIZE 99", fine(ahead + "99 0;", 7).at(1, 1, 1), 99);
            fault(ahead + "100 0;", N + 12, 2);
        }
    }

    /** BROOK: "HAS 0 to SIZE": 0, one less than SIZE, SIZE, one more. */
    private static void hasOf0ToSize() {
        for (int size : new int[] {1, 2, 9, 10, 98, 99}) {
            String ahead = TOLD + "takes b h 1 " + size + " ";
            CHECK.eq("HAS 0", fine(ahead + "0;", 7).at(1, 1, 2), 0);
            CHECK.eq("HAS one less", fine(ahead + (size - 1) + ";", 7).at(1, 1, 2), size - 1);
            CHECK.eq("HAS SIZE", fine(ahead + size + ";", 7).at(1, 1, 2), size);
            fault(ahead + (size + 1) + ";", ahead.length(), 2);
        }
    }

    /** BROOK: "'gives' WORK GOOD N (1 to 9)". */
    private static void givesOf1To9() {
        fault(TOLD + "gives b h 0;", N + 10, 2);
        CHECK.eq("1", fine(TOLD + "gives b h 1;", 7).at(1, 1, 3), 1);
        CHECK.eq("2", fine(TOLD + "gives b h 2;", 7).at(1, 1, 3), 2);
        CHECK.eq("8", fine(TOLD + "gives b h 8;", 7).at(1, 1, 3), 8);
        CHECK.eq("9", fine(TOLD + "gives b h 9;", 7).at(1, 1, 3), 9);
        fault(TOLD + "gives b h 10;", N + 10, 2);
    }

    /** BROOK: "'makes' WORK N (1 to 99)". */
    private static void makesOf1To99() {
        fault(TOLD + "makes b 0;", N + 8, 2);
        CHECK.eq("1", fine(TOLD + "makes b 1;", 7).work(1, 2), 1);
        CHECK.eq("2", fine(TOLD + "makes b 2;", 7).work(1, 2), 2);
        CHECK.eq("98", fine(TOLD + "makes b 98;", 7).work(1, 2), 98);
        CHECK.eq("99", fine(TOLD + "makes b 99;", 7).work(1, 2), 99);
        fault(TOLD + "makes b 100;", N + 8, 2);
    }

    /** BROOK: "'feeds' WORK GOOD N (1 to 9)". */
    private static void feedsOf1To9() {
        fault(TOLD + "feeds b h 0;", N + 10, 2);
        CHECK.eq("1", fine(TOLD + "feeds b h 1;", 7).at(1, 1, 4), 1);
        CHECK.eq("2", fine(TOLD + "feeds b h 2;", 7).at(1, 1, 4), 2);
        CHECK.eq("8", fine(TOLD + "feeds b h 8;", 7).at(1, 1, 4), 8);
        CHECK.eq("9", fine(TOLD + "feeds b h 9;", 7).at(1, 1, 4), 9);
        fault(TOLD + "feeds b h 10;", N + 10, 2);
    }

    /** BROOK: "each WORK and GOOD ... once"; FAULTS: "a GOOD of one WORK told again" (at the GOOD). */
    private static void eachWorkAndGoodOnce() {
        fault(TOLD + "takes a g 1 1 1;", N + 8, 3);
        fault(TOLD + "gives a g 1;", N + 8, 3);
        fault(TOLD + "feeds a g 1;feeds a g 1;", N + 20, 3);
        fine(TOLD + "feeds a g 1;", 7);
        fine(TOLD + "takes a h 1 1 1;gives a h 1;feeds a h 1;feeds a g 1;", 10);
        fine(TOLD + "takes b g 1 1 1;gives b g 1;feeds b g 1;takes b h 1 1 1;gives b h 1;feeds b h 1;", 12);
        fault(TOLD + "takes b g 1 1 1;gives b g 1;feeds b g 1;takes b g 1 1 1;", N + 48, 3);
    }

    /** BROOK: "(of makes: each WORK) once"; FAULTS: "makes of one told again (at the WORK)". */
    private static void makesOfEachWorkOnce() {
        fine(TOLD + "makes a 1;makes b 1;", 8);
        fault(TOLD + "makes a 1;makes a 1;", N + 16, 3);
        fault(TOLD + "makes a 1;makes b 1;makes a 2;", N + 26, 3);
    }

    /** BROOK: "'joined' (once)"; FAULTS: "joined told again (at its WORD)". */
    private static void joinedOnce() {
        CHECK.eq("once", fine("joined;", 1).count(5), 1);
        CHECK.eq("not at all", fine("work a;", 1).count(5), 0);
        fault("joined;joined;", 7, 3);
        fault("joined;work a; joined;", 15, 3);
        WasteBrook x = fine("joined;", 1);
        CHECK.eq("of the next BROOK again", Check.brook(x, "joined;"), 1);
    }

    /** BROOK: "NAME: a WORD, none of those told here, in a PLAN or a SENTENCE". */
    private static void nameNoneOfThoseTold() {
        String[] told = {"good", "work", "takes", "gives", "makes", "feeds", "joined", "stops", "brings", "or", "and",
            "not", "wants", "lets", "finds", "went", "stood", "made", "place"};
        for (String word : told) {
            fault("work " + word + ";", 5, 1);
            fault("good " + word + " 0;", 5, 1);
            fault(TOLD + "makes " + word + " 1;", N + 6, 1);
            fault(TOLD + "takes " + word + " g 1 1 1;", N + 6, 1);
            fault(TOLD + "feeds a " + word + " 1;", N + 8, 1);
            String less = word.substring(0, word.length() - 1);
            if (!less.equals("")) {
                fine("work " + less + ";", 1);
            }
            if (word.length() < 6) {
                fine("work " + word + "x;good x" + word + " 0;", 2);
            }
        }
        fine("good name 0;work line;good loss 0;work from;work till;good size 1;good has 1;work hours;work sign;good number 1;work cond;work one;", 12);
    }

    /** BROOK: NAME "told once"; FAULTS: "a NAME told twice", of the same sort or not. */
    private static void nameToldOnce() {
        fault("good g 0;good g 0;", 14, 3);
        fault("work a;work a;", 12, 3);
        fault("good g 0;work g;", 14, 3);
        fault("work a;good a 0;", 12, 3);
        fine("good a 0;good aa 0;work aaa;work aaaa;", 4);
        fine("work abc;work abd;work bc;work c;work ab;", 5);
    }

    /** FAULTS: a NAME "not told, or of another sort": at the place where it stands. */
    private static void nameIsToldAheadOfItsUse() {
        fault("makes a 1;work a;", 6, 3);
        fine("work a;makes a 1;", 2);
        fault("work a;gives a g 1;good g 0;", 15, 3);
        fault(TOLD + "takes c g 1 1 1;", N + 6, 3);
        fault(TOLD + "takes g g 1 1 1;", N + 6, 3);
        fault(TOLD + "takes b c 1 1 1;", N + 8, 3);
        fault(TOLD + "takes b a 1 1 1;", N + 8, 3);
        fault(TOLD + "gives h h 1;", N + 6, 3);
        fault(TOLD + "gives b b 1;", N + 8, 3);
        fault(TOLD + "feeds h h 1;", N + 6, 3);
        fault(TOLD + "feeds b b 1;", N + 8, 3);
        fault(TOLD + "makes h 1;", N + 6, 3);
    }

    /** BROOK: "6 GOODS ... at most, numbered from 0"; FAULTS: 4 "a seventh GOOD" (at the LINE's first WORD). */
    private static void sixGoodsAtMost() {
        String five = "good a 1;good b 2;good c 3;good d 4;good e 5;";
        CHECK.eq("five", fine(five, 5).count(0), 5);
        WasteBrook x = fine(five + "good f 6;", 6);
        CHECK.eq("six", x.count(0), 6);
        for (int g = 0; g < 6; g++) {
            CHECK.eq("numbered from 0", x.loss(g), g + 1);
        }
        fault(five + "good f 6;good g 7;", 54, 4);
        fault(five + "good f 6;work z; good g 7;", 62, 4);
        fault(five + "good f 6;good", 54, 4);
        fine(five + "good f 6;work g;", 7);
        Check.brook(x, five + "good f 6;good g 7;");
        CHECK.eq("six then still", x.count(0), 6);
        CHECK.eq("and six of the next BROOK again", Check.brook(x, five + "good f 6;"), 6);
    }

    /** BROOK: "8 WORKS at most, numbered from 0, WORKS from the top down as they are told"; FAULTS: 4 "a ninth WORK". */
    private static void eightWorksAtMost() {
        String seven = "work a 0 1;work b 0 2;work c 0 3;work d 0 4;work e 0 5;work f 0 6;work g 0 7;";
        CHECK.eq("seven", fine(seven, 7).count(1), 7);
        WasteBrook x = fine(seven + "work h 0 8;", 8);
        CHECK.eq("eight", x.count(1), 8);
        for (int w = 0; w < 8; w++) {
            CHECK.eq("numbered from 0", x.work(w, 1), w + 1);
        }
        fault(seven + "work h 0 8;work i 0 9;", 88, 4);
        fault(seven + "work h 0 8;joined;\nwork", 96, 4);
        fine(seven + "work h 0 8;good i 0;", 9);
        CHECK.eq("eight of the next BROOK again", Check.brook(x, seven + "work h 0 8;"), 8);
    }

    /** FAULTS: 1 at "the end: how many bytes there are", with blanks behind the last TOKEN or not. */
    private static void fault1AtTheEnd() {
        String[] cut = {"good", "good g", "good g 0", "work", "work a", "work a 1", "work a 1 2", "joined", TOLD + "takes", TOLD + "takes b",
            TOLD + "takes b g", TOLD + "takes b g 1", TOLD + "takes b g 1 1", TOLD + "takes b g 1 1 1", TOLD + "makes", TOLD + "makes a",
            TOLD + "makes a 1", TOLD + "feeds a", TOLD + "feeds a h", TOLD + "gives a h 1"};
        for (String text : cut) {
            fault(text, text.length(), 1);
            fault(text + " ", text.length() + 1, 1);
            fault(text + "\n\n", text.length() + 2, 1);
            fault(text + " ".repeat(900 - text.length()), 900, 1);
            fault(text + " ".repeat(901 - text.length()), 900, 1);
            fault(text + " ".repeat(899 - text.length()), 899, 1);
        }
    }

    /** "FAULTS, the first along the text". */
    private static void faultsTheFirstAlongTheText() {
        fault("good g 10;good g 0;?", 7, 2);
        fault("good g 0;good g 10;?", 14, 3);
        fault("? good g 0;good g 10;", 0, 1);
        fault(TOLD + "takes b g 1 0 9;", N + 12, 2);
        fault(TOLD + "takes a g 0 0 9;", N + 8, 3);
        fault(TOLD + "takes c g 0 0 9;", N + 6, 3);
        fault("joined;joined", 7, 3);
        fault(TOLD + "makes a 0", N + 8, 2);
    }

    /** "of one TOKEN the least": what can't come there is 1, though it would be another FAULT, too. */
    private static void faultsOfOneTokenTheLeast() {
        String goods = "good c 0;good d 0;good e 0;good f 0;";
        fault(TOLD + goods + "good g 0;", N + 36, 4);
        fault(TOLD + goods + "good good 0;", N + 36, 4);
        fault(TOLD + "joined;joined", N + 7, 3);
        fault(TOLD + "joined;gives joined g 1;", N + 13, 1);
        fault(TOLD + "gives a 1;", N + 8, 1);
        fault(TOLD + "gives a g a;", N + 8, 3);
        fault(TOLD + "gives a h a;", N + 10, 1);
        fault("work a a;", 7, 1);
        fault("work a 1 a;", 9, 1);
    }

    /** Promise 4: "The tape (empty then, here and below)": with a FAULT and without. */
    private static void promise4TheTapeIsEmptyThen() {
        WasteBrook x = fine("work a;", 1);
        CHECK.eq("an empty tape is the next BROOK", x.brook(), 0);
        CHECK.eq("no WORKS", x.count(1), 0);
        Check.brook(x, "work a");
        CHECK.eq("behind a FAULT, too", x.count(7), 0);
        CHECK.eq("it can be filled", x.feed(0, 0, 0, 0, 0), 20);
    }

    /** Promise 4: "how many LINES": none, one, all that a BROOK can have of two sorts. */
    private static void promise4HowManyLines() {
        fine("", 0);
        fine("joined;", 1);
        fine("joined;work a;", 2);
        StringBuilder all = new StringBuilder();
        for (char g = 'a'; g < 'g'; g++) {
            all.append("good ").append(g).append(" 0;");
        }
        for (char w = 'p'; w < 'x'; w++) {
            all.append("work ").append(w).append(";makes ").append(w).append(" 1;");
        }
        int lines = 6 + 16;
        for (char w = 'p'; w < 'x'; w++) {
            for (char g = 'a'; g < 'g' && all.length() + 12 <= 900; g++) {
                all.append("gives ").append(w).append(' ').append(g).append(" 1;");
                lines++;
            }
        }
        WasteBrook x = fine(all.toString(), lines);
        CHECK.eq("'gives'", x.count(3), lines - 22);
        CHECK.yes("48 of them", x.count(3) == 48);
    }

    /** Promise 4: "-1 less the place of a FAULT": places 0, 1, 899 and 900. */
    private static void promise4MinusOneLessThePlace() {
        WasteBrook x = new WasteBrook();
        CHECK.eq("place 0", Check.brook(x, "?"), -1);
        CHECK.eq("place 1", Check.brook(x, " ?"), -2);
        CHECK.eq("place 899", Check.brook(x, " ".repeat(899) + "?"), -900);
        CHECK.eq("place 900", Check.brook(x, " ".repeat(900) + "?"), -901);
        CHECK.eq("no further", Check.brook(x, " ".repeat(939) + "?"), -901);
    }

    /** Promise 4: with a FAULT "it stays": the BROOK, and all that goes with it. */
    private static void promise4ItStays() {
        String[] wrong = {"?", "good", "joined;joined;", "work z;good y 10;", "good x 9;work z 1 2;takes z x 1 2 3;",
            "good a 0;good b 0;good c 0;good d 0;good e 0;good f 0;good g 0;", "work z;makes z 5;work z;", " ".repeat(901)};
        int[] places = {0, 4, 7, 14, 34, 54, 22, 900};
        for (int i = 0; i < wrong.length; i++) {
            String text = wrong[i];
            Twin.tapeAlone(CHECK, "brook() of " + text, x -> {
                x.end(0);
                return Check.brook(x, text);
            }, -1 - places[i]);
        }
    }

    /** "A new BROOK: no RUN now, no PLAN, no SENTENCE", though it is told just as the one ahead. */
    private static void promise4NoRunNoPlanNoSentence() {
        for (String text : new String[] {Twin.BROOK, "", "joined;", "work a;"}) {
            WasteBrook x = Twin.full();
            CHECK.eq("hour() ahead", x.hour(), 5);
            CHECK.eq("LINES of the PLAN ahead", x.count(6), 2);
            x.end(0);
            CHECK.yes("a new one", Check.brook(x, text) >= 0);
            CHECK.eq("no RUN", x.hour(), -1);
            CHECK.eq("nothing made", x.made(), -1);
            CHECK.eq("no RUN to go on", x.on(1), -1);
            CHECK.eq("no PLAN", x.count(6), 0);
            x.begin();
            CHECK.eq("no SENTENCE", x.said(-1), -1);
            CHECK.eq("the text stays", x.byteAt(0), 'a');
        }
        WasteBrook x = Twin.full();
        x.end(0);
        Check.brook(x, Twin.BROOK);
        x.begin();
        x.on(3);
        CHECK.eq("nobody is stopped", x.went(0, 0), 3);
    }
}
