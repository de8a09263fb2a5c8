/**
 * Promises 39 to 42, with what part 3 says of a SENTENCE and its FAULTS, which sentence() and said() answer:
 * each sentence that names a boundary, at it and a step to either side.
 */
public final class EdgeSentenceTest {
    private static final Check CHECK = new Check();
    private static final int LEAST = Integer.MIN_VALUE;
    private static final int LARGEST = Integer.MAX_VALUE;
    /** Behind 12 HOURS a went in 12, b in 12, c in 1, d in none. */
    private static final String BROOK = "good w 0;good v 0;work a;gives a w 1;makes a 5;work b;takes b w 1 5 0;gives b v 1;makes b 1;work c 1 1;takes c v 1 9 0;work d;takes d w 9 9 0;makes d 9;";

    private EdgeSentenceTest() {
    }

    public static void main(String[] args) {
        sentenceOf200Bytes();
        tokensAheadOfTheMostAreReadWhole();
        notNone();
        twentyOnes();
        eightWithinOneAnother();
        withinEndsWithItsBracket();
        signsOfASentence();
        numbersOfASentence();
        wantsAndLets();
        findsAWork();
        wentStoodMadePlace();
        hoursOfTheRunNow();
        andOrNotAndBrackets();
        fault3NoSuchName();
        fault1AtTheEnd();
        faultsOfOneTokenTheLeast();
        promise39ATextOfTheRunNow();
        promise39AtTheMost();
        promise39NoneNoRun();
        promise40ByteI();
        promise40OfTheTextMadeLast();
        promise41HowManyOnes();
        promise41InPlaceOfTheOneAhead();
        promise41TheTapeIsEmptyThen();
        promise41ItStays();
        promise42HowMany();
        promise42TheKthOne();
        promise42NoSentence();
        promise42NoRun();
        promise42NoneSuch();
        CHECK.close("EdgeSentenceTest");
    }

    private static void fault(String text, int place, int kind) {
        WasteBrook x = Check.run(BROOK, 1);
        CHECK.eq("sentence() of " + text, Check.sentence(x, text), -1 - place);
        CHECK.eq("fault() of " + text, x.fault(), kind);
        CHECK.eq("the tape behind " + text, x.count(7), 0);
        CHECK.eq("no SENTENCE by " + text, x.said(-1), -1);
    }

    private static WasteBrook fine(String text, int ones) {
        WasteBrook x = Check.run(BROOK, 12);
        CHECK.eq("sentence() of " + text, Check.sentence(x, text), ones);
        CHECK.eq("fault() of " + text, x.fault(), 0);
        CHECK.eq("the tape behind " + text, x.count(7), 0);
        return x;
    }

    /** The WORKS, as bits, of which a text may be said. */
    private static void said(String text, int works) {
        WasteBrook x = Check.run(BROOK, 12);
        CHECK.yes("sentence() of " + text, Check.sentence(x, text) > 0);
        int bits = 0;
        for (int k = 0; k < x.said(-1); k++) {
            bits |= 1 << x.said(k);
        }
        CHECK.eq("said of " + text, bits, works);
    }

    /** SENTENCE: "a text of at most 200 bytes": 199, 200 and 201 of them. */
    private static void sentenceOf200Bytes() {
        fine("place=1" + " ".repeat(192), 1);
        fine("place=1" + " ".repeat(193), 1);
        fault("place=1" + " ".repeat(194), 200, 1);
        fault("place=1" + " ".repeat(933), 200, 1);
        fine(" ".repeat(192) + "place=1", 1);
        fine(" ".repeat(193) + "place=1", 1);
        fault(" ".repeat(193) + "place=1 ", 200, 1);
        fault(" ".repeat(194) + "place=1", 200, 1);
    }

    /** FAULTS: "TOKENS that begin ahead of it are read whole", one that begins at it is not. */
    private static void tokensAheadOfTheMostAreReadWhole() {
        fault("wants" + " ".repeat(194) + "abcdef", 199, 3);
        fault("wants" + " ".repeat(194) + "abcdefg", 199, 1);
        fault("wants" + " ".repeat(195) + "abcdefg", 200, 1);
        fine("wants" + " ".repeat(194) + "w", 1);
        fault("wants" + " ".repeat(195) + "w", 200, 1);
        fault("place=" + " ".repeat(193) + "12", 200, 1);
        fault("place=" + " ".repeat(193) + "1234", 199, 1);
        fault("place=" + " ".repeat(194) + "1", 200, 1);
        fault("place=1" + " ".repeat(192) + "or place=2", 200, 1);
        fault("place=1" + " ".repeat(192) + "place=2", 199, 1);
        fault("?" + " ".repeat(300), 0, 1);
    }

    /** SENTENCE: "COND: ALL { 'or' ALL }", so an empty one is none. */
    private static void notNone() {
        fault("", 0, 1);
        fault(" ", 1, 1);
        fault(" ".repeat(199), 199, 1);
        fault(" ".repeat(200), 200, 1);
        fault(" ".repeat(201), 200, 1);
        fault("()", 1, 1);
        fault("or", 0, 1);
        fault("and", 0, 1);
        fault(")", 0, 1);
    }

    private static String ones(int many) {
        return "lets w" + " or lets v".repeat(many - 1);
    }

    /** SENTENCE: "20 ONES"; FAULTS: 4 "a 21st ONE (at its first TOKEN)": of each sort that can be the last. */
    private static void twentyOnes() {
        fine("not not not not not not not lets w or not not not not not not not lets w or not not lets w", 19);
        fine("not not not not not not not lets w or not not not not not not not lets w or not not not lets w", 20);
        String nineteen = "not not not not not not not lets w or not not not not not not not lets w or not not lets w or ";
        String twenty = "not not not not not not not lets w or not not not not not not not lets w or not not not lets w or ";
        fine(nineteen + "lets v", 20);
        fine(nineteen + "place<9", 20);
        fault(nineteen + "not lets v", nineteen.length() + 4, 4);
        fault(nineteen + "(lets v)", nineteen.length() + 1, 4);
        for (String last : new String[] {"lets v", "wants v", "finds a", "went=1", "stood=1", "made=1", "place=1", "not lets v", "(lets v)", "(", "not", "lets", "went"}) {
            fault(twenty + last, twenty.length(), 4);
        }
        for (String last : new String[] {"or", "and", ")", "=", "1", "a", ";", "work", ""}) {
            fault(twenty + last, twenty.length(), 1);
        }
        fine("(lets w)or(lets w)or(lets w)or(lets w)or(lets w)or(lets w)or(lets w)or(lets w)or(lets w)or(lets w)", 20);
        fault("(lets w)or(lets w)or(lets w)or(lets w)or(lets w)or(lets w)or(lets w)or(lets w)or(lets w)or(lets w)or(lets w)", 100, 4);
    }

    /** SENTENCE: "8 within one another"; FAULTS: 4 "a ninth within (at its first TOKEN)": 7, 8 and 9 of them. */
    private static void eightWithinOneAnother() {
        for (int around = 0; around <= 9; around++) {
            String nots = "not ".repeat(around);
            String brackets = "(".repeat(around);
            if (around <= 7) {
                fine(nots + "place=1", around + 1);
                fine(brackets + "place=1" + ")".repeat(around), around + 1);
            } else {
                fault(nots + "place=1", 32, 4);
                fault(brackets + "place=1" + ")".repeat(around), 8, 4);
            }
        }
        fine("not(not(not(not place=1)))", 8);
        fault("not(not(not(not(place=1))))", 16, 4);
        fine("(not(not(not(not place=1))))".substring(1, 27), 8);
        fault("((((((((", 8, 1);
        fault("(((((((((", 8, 4);
        fault("((((((((or", 8, 1);
        fault("((((((((not", 8, 4);
        fault("((((((((not 1", 8, 4);
        fault("(((((((", 7, 1);
        fault("((((((()", 7, 1);
    }

    /** "8 within one another": what stands next to a bracket is not within it. */
    private static void withinEndsWithItsBracket() {
        String seven = "(((((((place=1)))))))";
        fine(seven + "or place=2", 9);
        fine(seven + "and not not not not not not not place=1", 16);
        fine("place=1 or " + seven, 9);
        fine("not place=1 and not place=2 or not place=3 and not place=0", 8);
        fine("((((((place=1)or place=2)or place=3)or place=0)or place=1)or place=2)", 12);
        fault("((((((((place=1)or place=2)or place=3)or place=0)or place=1)or place=2)", 8, 4);
        fine("(((((((place=1 or place=2 and place=3)))))))", 10);
        fault("(((((((place=1 or (place=2)))))))", 19, 4);
        fault("(((((((place=1 or not place=2)))))))", 22, 4);
    }

    /** SENTENCE: "SIGN: < = >": the signs next to them are none. */
    private static void signsOfASentence() {
        for (int c = 33; c < 256; c++) {
            boolean letterOrDigit = c >= '0' && c <= '9' || c >= 'a' && c <= 'z';
            if (c == '<' || c == '=' || c == '>') {
                fine("place" + (char) c + "1", 1);
            } else if (!letterOrDigit) {
                fault("place" + (char) c + "1", 5, 1);
            }
            if (c != '(' && !letterOrDigit) {
                fault((char) c + "place=1)", 0, 1);
            }
            if (c != ')' && !letterOrDigit) {
                fault("(place=1" + (char) c, 8, 1);
            }
        }
        fault("place==1", 6, 1);
        fault("place 1", 6, 1);
        fine("place\n<\n1\n", 1);
    }

    /** SENTENCE: NUMBER: any of 1 to 3 digits, 0 to 999. */
    private static void numbersOfASentence() {
        fine("went=0", 1);
        fine("went=000", 1);
        fine("went=999", 1);
        fault("went=1000", 5, 1);
        fault("went=0000", 5, 1);
        fault("went=", 5, 1);
        fault("went=a", 5, 1);
        fault("went=or", 5, 1);
        fault("went=1a", 5, 1);
        fault("went=1or went=2", 5, 1);
    }

    /** "'wants' GOOD (it takes it) | 'lets' GOOD (it gives it)": of some, of none. */
    private static void wantsAndLets() {
        said("wants w", 2 + 8);
        said("wants v", 4);
        said("lets w", 1);
        said("lets v", 2);
        WasteBrook x = Check.run("good w 0;good v 0;work a;feeds a w 1;", 1);
        Check.sentence(x, "wants w or lets w or wants v or lets v");
        CHECK.eq("what is fed is neither", x.said(-1), 0);
    }

    /** "'finds' WORK (FOUND by it)": in what it used, not in what is in its vat. */
    private static void findsAWork() {
        said("finds a", 2 + 4);
        said("finds b", 4);
        said("finds c", 0);
        said("finds d", 0);
        WasteBrook x = Check.of("good w 0;work a;gives a w 1;work b;takes b w 2 9 0;");
        Check.sentence(x, "finds a");
        x.begin();
        x.on(1);
        CHECK.eq("1 of 2 is in the vat", x.said(-1), 0);
        x.on(1);
        CHECK.eq("2 were used", x.said(-1), 1);
    }

    /** "( 'went' | 'stood' | 'made' | 'place' ) SIGN NUMBER": one less, alike, one more by each SIGN. */
    private static void wentStoodMadePlace() {
        // 12 12 1 0 | 0 0 11 12 | 60 12 0 0 | 0 1 2 3
        int[][] values = {{12, 12, 1, 0}, {0, 0, 11, 12}, {60, 12, 0, 0}, {0, 1, 2, 3}};
        String[] names = {"went", "stood", "made", "place"};
        for (int i = 0; i < 4; i++) {
            for (int n : new int[] {0, 1, 2, 3, 4, 10, 11, 12, 13, 59, 60, 61, 999}) {
                int less = 0;
                int alike = 0;
                int more = 0;
                for (int w = 0; w < 4; w++) {
                    less |= values[i][w] < n ? 1 << w : 0;
                    alike |= values[i][w] == n ? 1 << w : 0;
                    more |= values[i][w] > n ? 1 << w : 0;
                }
                said(names[i] + "<" + n, less);
                said(names[i] + "=" + n, alike);
                said(names[i] + ">" + n, more);
            }
        }
        WasteBrook most = Check.run("work a;makes a 99;", 200);
        Check.sentence(most, "made>999 and went=200 and stood=0 and place=0 and not made<999");
        CHECK.eq("19800 by 200", most.said(-1), 1);
    }

    /** "(HOURS of the RUN now": as it goes on, and as it begins. */
    private static void hoursOfTheRunNow() {
        WasteBrook x = Check.of(BROOK);
        Check.sentence(x, "went=1");
        x.begin();
        int[] many = {0, 2, 1, 1};
        for (int h = 0; h < 4; h++) {
            CHECK.eq("behind " + h, x.said(-1), many[h]);
            x.on(1);
        }
        x.begin();
        CHECK.eq("anew", x.said(-1), 0);
    }

    /** "COND: ALL { 'or' ALL }. ALL: ONE { 'and' ONE }. ONE: 'not' ONE | ( COND )". */
    private static void andOrNotAndBrackets() {
        String[] yes = {"place<9", "place>9"};
        for (int a = 0; a < 2; a++) {
            for (int b = 0; b < 2; b++) {
                for (int c = 0; c < 2; c++) {
                    boolean p = a == 0;
                    boolean q = b == 0;
                    boolean r = c == 0;
                    said(yes[a] + " or " + yes[b] + " and " + yes[c], p || q && r ? 15 : 0);
                    said(yes[a] + " and " + yes[b] + " or " + yes[c], p && q || r ? 15 : 0);
                    said("(" + yes[a] + " or " + yes[b] + ")and " + yes[c], (p || q) && r ? 15 : 0);
                    said(yes[a] + " and(" + yes[b] + " or " + yes[c] + ")", p && (q || r) ? 15 : 0);
                    said("not " + yes[a] + " and " + yes[b] + " or " + yes[c], !p && q || r ? 15 : 0);
                    said("not(" + yes[a] + " and " + yes[b] + " or " + yes[c] + ")", p && q || r ? 0 : 15);
                    said("not " + yes[a] + " or " + yes[b] + " or " + yes[c], !p || q || r ? 15 : 0);
                    said(yes[a] + " and " + yes[b] + " and not " + yes[c], p && q && !r ? 15 : 0);
                }
            }
        }
        said("not not not not not not not place=1", 13);
        said("(((((((place=1)))))))", 2);
    }

    /** FAULTS: "3 (no such NAME)": not told, or of another sort. */
    private static void fault3NoSuchName() {
        fault("wants x", 6, 3);
        fault("wants a", 6, 3);
        fault("lets x", 5, 3);
        fault("lets a", 5, 3);
        fault("finds x", 6, 3);
        fault("finds w", 6, 3);
        fault("place=1 or wants x", 17, 3);
        fine("wants w", 1);
        fine("lets v", 1);
        fine("finds d", 1);
    }

    /** FAULTS: 1 at "the end: how many bytes there are". */
    private static void fault1AtTheEnd() {
        for (String text : new String[] {"wants", "lets", "finds", "went", "went=", "stood", "stood<", "made", "made>", "place", "place=", "not", "(", "(place=1",
            "place=1 or", "place=1 and", "not not", "((place=1)", "place=1 or not"}) {
            fault(text, text.length(), 1);
            fault(text + " ", text.length() + 1, 1);
            fault(text + " ".repeat(199 - text.length()), 199, 1);
            fault(text + " ".repeat(200 - text.length()), 200, 1);
            fault(text + " ".repeat(201 - text.length()), 200, 1);
        }
    }

    /** "of one TOKEN the least": what can't come is 1. */
    private static void faultsOfOneTokenTheLeast() {
        for (String word : new String[] {"good", "work", "takes", "gives", "makes", "feeds", "joined", "stops", "brings", "or", "and", "not", "wants", "lets", "finds",
            "went", "stood", "made", "place"}) {
            fault("wants " + word, 6, 1);
            fault("finds " + word, 6, 1);
            boolean begins = "not wants lets finds went stood made place".contains(word);
            fault(word, begins ? word.length() : 0, 1);
            fault("place=1 " + word, word.equals("or") || word.equals("and") ? 8 + word.length() : 8, 1);
        }
        fault("wants 1", 6, 1);
        fault("wants (", 6, 1);
        fault("a", 0, 1);
        fault("1", 0, 1);
        fault("place=1;", 7, 1);
        fault("place=1)", 7, 1);
        fault("place=1.", 7, 1);
        fault("place=1 lets w", 8, 1);
        fault("(place=1 lets w)", 9, 1);
    }

    private static void text(WasteBrook x, String want) {
        CHECK.eq("write()", x.write(), want.length());
        StringBuilder b = new StringBuilder();
        for (int i = 0; i < want.length(); i++) {
            b.append((char) x.byteAt(i));
        }
        CHECK.same("the text", b.toString(), want);
        CHECK.eq("behind it", x.byteAt(want.length()), -1);
    }

    /** Promise 39: "of each WORK its NAME, in how many HOURS it went, what it made, with one blank (32) between, and ; behind it": 0, 9, 10, 99, 100, 199, 200. */
    private static void promise39ATextOfTheRunNow() {
        int[] hours = {0, 1, 9, 10, 11, 99, 100, 101, 199, 200};
        WasteBrook x = Check.of("work z;makes z 1;work abcdef;makes abcdef 10;work b;");
        x.begin();
        for (int n : hours) {
            x.on(n - x.hour());
            text(x, "z " + n + " " + n + ";abcdef " + n + " " + 10 * n + ";b " + n + " 0;");
        }
        WasteBrook y = Check.run("good w 0;work a;takes a w 1 1 1;makes a 99;work b;takes b w 1 1 0;makes b 99;", 50);
        text(y, "a 1 99;b 0 0;");
        int[][] rows = {{111, 9}, {100, 10}, {143, 7}, {101, 99}, {200, 50}, {137, 73}};
        for (int[] row : rows) {
            WasteBrook z = Check.run("work a;makes a " + row[1] + ";", row[0]);
            text(z, "a " + row[0] + " " + row[0] * row[1] + ";");
        }
    }

    /** Promise 39: as long as it can be: 8 WORKS with NAMES of 6 letters, that make 99 in 200 HOURS. */
    private static void promise39AtTheMost() {
        StringBuilder told = new StringBuilder();
        StringBuilder want = new StringBuilder();
        for (char c = 'a'; c < 'i'; c++) {
            told.append("work zzzzz").append(c).append(";makes zzzzz").append(c).append(" 99;");
            want.append("zzzzz").append(c).append(" 200 19800;");
        }
        WasteBrook x = Check.run(told.toString(), 200);
        CHECK.eq("bytes", want.length(), 136);
        text(x, want.toString());
    }

    /** Promise 39: "NONE: no RUN": the text made last stays. */
    private static void promise39NoneNoRun() {
        WasteBrook x = new WasteBrook();
        CHECK.eq("without a BROOK", x.write(), -1);
        CHECK.eq("no text", x.byteAt(0), -1);
        Check.brook(x, "work a;");
        CHECK.eq("without a RUN", x.write(), -1);
        x.begin();
        text(x, "a 0 0;");
        Check.brook(x, "work b;");
        CHECK.eq("without a RUN any more", x.write(), -1);
        CHECK.eq("the text stays", x.byteAt(0), 'a');
        CHECK.eq("to its last byte", x.byteAt(5), ';');
        CHECK.eq("and no further", x.byteAt(6), -1);
    }

    /** Promise 40: "Byte i": the one ahead of the first, the first, the last, one behind it; "NONE: there is none such". */
    private static void promise40ByteI() {
        WasteBrook x = Check.run("work a;makes a 7;", 3);
        CHECK.eq("no text yet", x.byteAt(0), -1);
        x.write();
        int[] bytes = {'a', ' ', '3', ' ', '2', '1', ';'};
        for (int i = 0; i < 7; i++) {
            CHECK.eq("byteAt(" + i + ")", x.byteAt(i), bytes[i]);
        }
        CHECK.eq("byteAt(7)", x.byteAt(7), -1);
        CHECK.eq("byteAt(-1)", x.byteAt(-1), -1);
        for (int i : new int[] {-1, 144, 1000, LEAST, LARGEST}) {
            Twin.same(CHECK, "byteAt(" + i + ")", t -> t.byteAt(i), -1);
        }
        Twin.same(CHECK, "byteAt(0)", t -> t.byteAt(0), 'a');
    }

    /** Promise 40: "of the text made last": a shorter one has not the bytes of the longer one ahead. */
    private static void promise40OfTheTextMadeLast() {
        WasteBrook x = Check.run("work abcdef;makes abcdef 99;", 200);
        CHECK.eq("abcdef 200 19800;", x.write(), 17);
        CHECK.eq("its last", x.byteAt(16), ';');
        x.begin();
        CHECK.eq("it stays till the next", x.byteAt(16), ';');
        CHECK.eq("abcdef 0 0;", x.write(), 11);
        CHECK.eq("its last", x.byteAt(10), ';');
        CHECK.eq("no further", x.byteAt(11), -1);
        CHECK.eq("nor where the other ended", x.byteAt(16), -1);
    }

    /** Promise 41: "how many ONES (each not, bracket and other one)": 1, and each sort more. */
    private static void promise41HowManyOnes() {
        fine("place=1", 1);
        fine("not place=1", 2);
        fine("(place=1)", 2);
        fine("place=1 or place=2", 2);
        fine("place=1 and place=2", 2);
        fine("not(place=1 or not place=2)", 5);
        fine(ones(20), 20);
        fine(ones(19), 19);
        String nineteen = "lets w or ".repeat(19);
        CHECK.eq("the 20th is said, too", fine(nineteen + "place=3", 20).said(1), 3);
        said("lets w and ".repeat(16) + "lets w or place=2", 1 + 4);
        said(nineteen + "place=3", 1 + 8);
        said("place<9 and ".repeat(15) + "not not place=2", 4);
    }

    /** Promise 41: "The tape is the SENTENCE now": nothing is left of the one ahead. */
    private static void promise41InPlaceOfTheOneAhead() {
        WasteBrook x = fine("place=1 or place=2 or place=3", 3);
        CHECK.eq("three", x.said(-1), 3);
        CHECK.eq("one ONE", Check.sentence(x, "place=0"), 1);
        CHECK.eq("one", x.said(-1), 1);
        CHECK.eq("WORK 0", x.said(0), 0);
        CHECK.eq("two ONES", Check.sentence(x, "not place=0"), 2);
        CHECK.eq("three again", x.said(-1), 3);
        CHECK.eq("one ONE", Check.sentence(x, "place>7"), 1);
        CHECK.eq("none", x.said(-1), 0);
        WasteBrook most = fine(ones(20), 20);
        for (int place = 0; place < 4; place++) {
            CHECK.eq("not the one", Check.sentence(most, "not not not place=" + place), 4);
            CHECK.eq("three", most.said(-1), 3);
        }
    }

    /** Promise 41 (and 4: "empty then, here and below"). */
    private static void promise41TheTapeIsEmptyThen() {
        WasteBrook x = fine("place=1", 1);
        CHECK.eq("an empty tape is no SENTENCE", x.sentence(), -1);
        CHECK.eq("of kind 1", x.fault(), 1);
        CHECK.eq("the one ahead stays", x.said(0), 1);
    }

    /** Promise 41: "-1 less the place of a FAULT: it stays": the SENTENCE, and all else. */
    private static void promise41ItStays() {
        String[] wrong = {"", "?", "place=1 or", "lets v or wants b", "not not not not not not not not lets w", " ".repeat(201), "place=1000"};
        int[] places = {0, 0, 10, 16, 32, 200, 6};
        for (int i = 0; i < wrong.length; i++) {
            String text = wrong[i];
            Twin.tapeAlone(CHECK, "sentence() of " + text, x -> {
                x.end(0);
                return Check.sentence(x, text);
            }, -1 - places[i]);
        }
    }

    /** Promise 42: "how many (k NONE)": none, all. */
    private static void promise42HowMany() {
        CHECK.eq("none", fine("place>3", 1).said(-1), 0);
        CHECK.eq("one", fine("place>2", 1).said(-1), 1);
        CHECK.eq("all", fine("place<4", 1).said(-1), 4);
        WasteBrook eight = Check.of("work a;work b;work c;work d;work e;work f;work g;work h;");
        Check.sentence(eight, "place<8");
        eight.begin();
        CHECK.eq("of eight", eight.said(-1), 8);
        CHECK.eq("the last", eight.said(7), 7);
        CHECK.eq("behind it", eight.said(8), -1);
        WasteBrook last = Check.of("good a 0;good b 0;good c 0;good d 0;good e 0;good f 0;work p;takes p f 1 9 0;work q;work r;work s;work t;work u;work v;gives v f 1;"
            + "work w;gives w f 1;joined;");
        last.begin();
        last.on(2);
        String[] of = {"wants f", "lets f", "finds w", "finds v", "finds p", "wants a", "lets e", "place=7"};
        int[][] said = {{1, 0}, {2, 6}, {1, 0}, {1, 0}, {0, -1}, {0, -1}, {0, -1}, {1, 7}};
        for (int i = 0; i < of.length; i++) {
            CHECK.eq(of[i], Check.sentence(last, of[i]), 1);
            CHECK.eq("WORKS of which " + of[i], last.said(-1), said[i][0]);
            CHECK.eq("the first of which " + of[i], last.said(0), said[i][1]);
        }
    }

    /** Promise 42: "or the k-th one": the first, the last, one behind it. */
    private static void promise42TheKthOne() {
        WasteBrook x = fine("place=1 or place=3", 2);
        CHECK.eq("said(0)", x.said(0), 1);
        CHECK.eq("said(1)", x.said(1), 3);
        CHECK.eq("said(2)", x.said(2), -1);
        WasteBrook none = fine("place=9", 1);
        CHECK.eq("said(0) of none", none.said(0), -1);
    }

    /** Promise 42: "NONE: there is no SENTENCE". */
    private static void promise42NoSentence() {
        WasteBrook x = Check.run(BROOK, 1);
        CHECK.eq("how many", x.said(-1), -1);
        CHECK.eq("the first", x.said(0), -1);
        Check.sentence(x, "place=1 or");
        CHECK.eq("one with a FAULT is none", x.said(-1), -1);
        Check.sentence(x, "place=1");
        CHECK.eq("there is one", x.said(-1), 1);
    }

    /** Promise 42: "no RUN". */
    private static void promise42NoRun() {
        WasteBrook x = Check.of(BROOK);
        Check.sentence(x, "place=1");
        CHECK.eq("how many", x.said(-1), -1);
        CHECK.eq("the first", x.said(0), -1);
        x.begin();
        CHECK.eq("a RUN of no HOURS", x.said(0), 1);
    }

    /** Promise 42: "none such": k below NONE, k behind the last. */
    private static void promise42NoneSuch() {
        for (int k : new int[] {-2, 1, 2, LEAST, LARGEST}) {
            Twin.same(CHECK, "said(" + k + ")", t -> t.said(k), -1);
        }
        Twin.same(CHECK, "said(NONE)", t -> t.said(-1), 1);
        Twin.same(CHECK, "said(0)", t -> t.said(0), 1);
    }
}
