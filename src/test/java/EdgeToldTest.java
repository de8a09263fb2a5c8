/** Promises 5 to 8 and 45, what is told of the BROOK: each sentence that names a boundary. */
public final class EdgeToldTest {
    private static final Check CHECK = new Check();
    private static final int LEAST = Integer.MIN_VALUE;
    private static final int LARGEST = Integer.MAX_VALUE;
    /** All that can be told at its most: 6 GOODS, 8 WORKS; GOOD 5 and WORK 7 are the last. */
    private static final String MOST = "good a 9;good b 0;good c 0;good d 0;good e 0;good f 9;work p 0 0;work q;work r;work s;work t;work u;work v;work w 11 11;"
        + "takes w f 9 99 99;gives w f 9;feeds w f 9;makes w 99;takes p a 1 1 0;gives p a 1;feeds p a 1;makes p 1;joined;";

    private EdgeToldTest() {
    }

    public static void main(String[] args) {
        promise5ZeroWithoutOneAndAheadOfAny();
        promise5OfTheLatest();
        promise5OtherCallsTellNone();
        promise6AllOfIt();
        promise6NoSuchWork();
        promise6NoSuchWhat();
        promise6WithoutWorks();
        promise7AllOfIt();
        promise7ZeroWhereNothingIsTold();
        promise7NoneNoSuchOnes();
        promise8Loss();
        promise8NoneNoSuchOne();
        promise45Counts();
        promise45BytesOfTheTape();
        promise45NoneForAnotherWhat();
        CHECK.close("EdgeToldTest");
    }

    /** Promise 5: "0 without one and ahead of any". */
    private static void promise5ZeroWithoutOneAndAheadOfAny() {
        WasteBrook x = new WasteBrook();
        CHECK.eq("ahead of any", x.fault(), 0);
        x.brook();
        CHECK.eq("a BROOK without one", x.fault(), 0);
        x.plan();
        CHECK.eq("a PLAN without one", x.fault(), 0);
        Check.brook(x, "good g 0;");
        Check.sentence(x, "wants g");
        CHECK.eq("a SENTENCE without one", x.fault(), 0);
    }

    /** Promise 5: "The kind of the FAULT of the latest brook(), plan() or sentence()": each of 1, 2, 3, 4, and 0 behind it. */
    private static void promise5OfTheLatest() {
        WasteBrook x = Check.of("good g 0;work a;takes a g 1 1 1;");
        String[][] texts = {{"?", "stops", "went"}, {"good g 10;", "stops a 200 200;", ""}, {"joined;joined;", "stops g 1 1;", "wants a"},
            {"work a;work b;work c;work d;work e;work f;work g;work h;work i;", "stops a 1 1;".repeat(20) + "stops", "(((((((((place=1"}};
        for (int kind = 1; kind <= 4; kind++) {
            Check.brook(x, texts[kind - 1][0]);
            CHECK.eq("of brook()", x.fault(), kind);
            Check.plan(x, texts[kind - 1][1]);
            CHECK.eq("of plan()", x.fault(), kind);
            Check.sentence(x, texts[kind - 1][2]);
            CHECK.eq("of sentence()", x.fault(), kind == 2 ? 1 : kind);
            Check.plan(x, "stops a 1 1;");
            CHECK.eq("of a PLAN that has none", x.fault(), 0);
            Check.brook(x, texts[kind - 1][0]);
            Check.sentence(x, "wants g");
            CHECK.eq("of a SENTENCE that has none", x.fault(), 0);
            Check.sentence(x, texts[kind - 1][2]);
            Check.brook(x, "good g 0;work a;takes a g 1 1 1;");
            CHECK.eq("of a BROOK that has none", x.fault(), 0);
        }
    }

    /** Promise 5: brook(), plan() and sentence() alone: what another call tells or refuses is none. */
    private static void promise5OtherCallsTellNone() {
        WasteBrook x = Twin.full();
        CHECK.eq("of the PLAN", x.fault(), 2);
        x.kept(0);
        CHECK.eq("not of kept()", x.fault(), 2);
        x.end(-1);
        x.on(-1);
        x.begin();
        x.image(5);
        x.image(1);
        x.restore(1);
        x.write();
        x.feed(0, 0, 0, 0, 0);
        x.by(-1, -1);
        CHECK.eq("nor of others", x.fault(), 2);
        x.end(0);
        x.plan();
        x.on(-1);
        x.kept(0);
        CHECK.eq("0 stays as well", x.fault(), 0);
    }

    /** Promise 6: what 0 to 5, of the first WORK and the last. */
    private static void promise6AllOfIt() {
        WasteBrook x = Check.of(MOST);
        int[] first = {0, 0, 1, 1, 1, 1};
        int[] second = {0, 11, 0, 0, 0, 0};
        int[] last = {11, 11, 99, 32, 32, 32};
        for (int what = 0; what < 6; what++) {
            CHECK.eq("work(0, " + what + ")", x.work(0, what), first[what]);
            CHECK.eq("work(1, " + what + ")", x.work(1, what), second[what]);
            CHECK.eq("work(6, " + what + ")", x.work(6, what), second[what]);
            CHECK.eq("work(7, " + what + ")", x.work(7, what), last[what]);
        }
        WasteBrook apart = Check.of("good a 0;good b 0;good c 0;work p;takes p a 1 1 1;gives p b 1;feeds p c 1;work q;feeds q a 1;takes q b 1 1 1;gives q c 1;");
        CHECK.eq("taken, given and fed by WORK 0", apart.work(0, 3) * 100 + apart.work(0, 4) * 10 + apart.work(0, 5), 124);
        CHECK.eq("taken, given and fed by WORK 1", apart.work(1, 3) * 100 + apart.work(1, 4) * 10 + apart.work(1, 5), 241);
        StringBuilder all = new StringBuilder("work p;");
        for (char g = 'a'; g < 'g'; g++) {
            all.append("good ").append(g).append(" 0;takes p ").append(g).append(" 1 1 1;gives p ").append(g).append(" 1;feeds p ").append(g).append(" 1;");
        }
        WasteBrook y = Check.of(all.toString());
        CHECK.eq("all six taken", y.work(0, 3), 63);
        CHECK.eq("all six given", y.work(0, 4), 63);
        CHECK.eq("all six fed", y.work(0, 5), 63);
    }

    /** Promise 6: "NoSuchElementException: no such ones": WORKS ahead of 0 and behind the last; "A call that throws changes nothing". */
    private static void promise6NoSuchWork() {
        WasteBrook x = Check.of(MOST);
        CHECK.eq("the last", x.work(7, 0), 11);
        CHECK.throwsNoSuch("one behind it", () -> x.work(8, 0));
        WasteBrook one = Check.of("work a;");
        CHECK.eq("the one", one.work(0, 1), 11);
        CHECK.throwsNoSuch("one behind it", () -> one.work(1, 1));
        for (int w : new int[] {-1, 2, 7, 8, LEAST, LARGEST}) {
            Twin.sameThrown(CHECK, "work(" + w + ", 0)", t -> t.work(w, 0));
            Twin.sameThrown(CHECK, "work(" + w + ", 5)", t -> t.work(w, 5));
        }
    }

    /** Promise 6: "no such ones": what -1 and 6. */
    private static void promise6NoSuchWhat() {
        for (int what : new int[] {-1, 6, 7, LEAST, LARGEST}) {
            Twin.sameThrown(CHECK, "work(0, " + what + ")", t -> t.work(0, what));
            Twin.sameThrown(CHECK, "work(1, " + what + ")", t -> t.work(1, what));
        }
    }

    /** Promise 6: of a BROOK without WORKS none. */
    private static void promise6WithoutWorks() {
        for (String text : new String[] {"", "good g 0;", "joined;"}) {
            WasteBrook x = Check.of(text);
            for (int what = 0; what < 6; what++) {
                int asked = what;
                CHECK.throwsNoSuch("work(0, " + what + ")", () -> x.work(0, asked));
            }
        }
    }

    /** Promise 7: what 0 to 4, of the first WORK and GOOD and of the last, at the least and at the most. */
    private static void promise7AllOfIt() {
        WasteBrook x = Check.of(MOST);
        int[] first = {1, 1, 0, 1, 1};
        int[] last = {9, 99, 99, 9, 9};
        for (int what = 0; what < 5; what++) {
            CHECK.eq("at(0, 0, " + what + ")", x.at(0, 0, what), first[what]);
            CHECK.eq("at(7, 5, " + what + ")", x.at(7, 5, what), last[what]);
        }
    }

    /** Promise 7: "0 where nothing is told": next to what is told, too, and of each on its own. */
    private static void promise7ZeroWhereNothingIsTold() {
        WasteBrook x = Check.of(MOST);
        for (int what = 0; what < 5; what++) {
            CHECK.eq("at(0, 1, " + what + ")", x.at(0, 1, what), 0);
            CHECK.eq("at(1, 0, " + what + ")", x.at(1, 0, what), 0);
            CHECK.eq("at(6, 5, " + what + ")", x.at(6, 5, what), 0);
            CHECK.eq("at(7, 4, " + what + ")", x.at(7, 4, what), 0);
            CHECK.eq("at(0, 5, " + what + ")", x.at(0, 5, what), 0);
        }
        Check.brook(x, "good a 0;work p;");
        for (int what = 0; what < 5; what++) {
            CHECK.eq("nothing is left of the BROOK ahead: " + what, x.at(0, 0, what), 0);
        }
        WasteBrook takes = Check.of("good g 0;work a;takes a g 4 6 5;");
        CHECK.eq("takes alone", takes.at(0, 0, 0) * 100 + takes.at(0, 0, 1) * 10 + takes.at(0, 0, 2), 465);
        CHECK.eq("gives and is fed nothing", takes.at(0, 0, 3) + takes.at(0, 0, 4), 0);
        WasteBrook gives = Check.of("good g 0;work a;gives a g 4;");
        CHECK.eq("gives alone", gives.at(0, 0, 3), 4);
        CHECK.eq("takes and is fed nothing", gives.at(0, 0, 0) + gives.at(0, 0, 1) + gives.at(0, 0, 2) + gives.at(0, 0, 4), 0);
        WasteBrook feeds = Check.of("good g 0;work a;feeds a g 4;");
        CHECK.eq("fed alone", feeds.at(0, 0, 4), 4);
        CHECK.eq("takes and gives nothing", feeds.at(0, 0, 0) + feeds.at(0, 0, 1) + feeds.at(0, 0, 2) + feeds.at(0, 0, 3), 0);
    }

    /** Promise 7: "NONE: no such ones": each argument ahead of 0 and behind the last. */
    private static void promise7NoneNoSuchOnes() {
        WasteBrook x = Check.of(MOST);
        for (int what = 0; what < 5; what++) {
            CHECK.eq("at(8, 5, " + what + ")", x.at(8, 5, what), -1);
            CHECK.eq("at(7, 6, " + what + ")", x.at(7, 6, what), -1);
            CHECK.eq("at(-1, 5, " + what + ")", x.at(-1, 5, what), -1);
            CHECK.eq("at(7, -1, " + what + ")", x.at(7, -1, what), -1);
        }
        CHECK.eq("at(7, 5, 5)", x.at(7, 5, 5), -1);
        CHECK.eq("at(7, 5, -1)", x.at(7, 5, -1), -1);
        for (int i : new int[] {-1, 2, 6, 8, LEAST, LARGEST}) {
            Twin.same(CHECK, "at(" + i + ", 0, 0)", t -> t.at(i, 0, 0), -1);
            Twin.same(CHECK, "at(0, " + i + ", 0)", t -> t.at(0, i, 0), -1);
        }
        for (int what : new int[] {-1, 5, 6, LEAST, LARGEST}) {
            Twin.same(CHECK, "at(1, 0, " + what + ")", t -> t.at(1, 0, what), -1);
        }
        CHECK.eq("without WORKS", Check.of("good g 1;").at(0, 0, 0), -1);
        CHECK.eq("without GOODS", Check.of("work a;").at(0, 0, 0), -1);
        CHECK.eq("one of each", Check.of("work a;good g 1;").at(0, 0, 0), 0);
    }

    /** Promise 8: the least LOSS and the largest, of the first GOOD and the last. */
    private static void promise8Loss() {
        WasteBrook x = Check.of("good a 0;good b 1;good c 8;good d 9;good e 0;good f 9;");
        int[] loss = {0, 1, 8, 9, 0, 9};
        for (int g = 0; g < 6; g++) {
            CHECK.eq("loss(" + g + ")", x.loss(g), loss[g]);
        }
    }

    /** Promise 8: "NONE: no such one". */
    private static void promise8NoneNoSuchOne() {
        CHECK.eq("loss(6) of six", Check.of(MOST).loss(6), -1);
        CHECK.eq("loss(5) of six", Check.of(MOST).loss(5), 9);
        CHECK.eq("loss(0) of none", new WasteBrook().loss(0), -1);
        WasteBrook x = Check.of(MOST);
        Check.brook(x, "good g 3;");
        CHECK.eq("loss(1), which the BROOK ahead had", x.loss(1), -1);
        for (int g : new int[] {-1, 2, 6, LEAST, LARGEST}) {
            Twin.same(CHECK, "loss(" + g + ")", t -> t.loss(g), -1);
        }
    }

    /** Promise 45: counts 0 to 6 at none, at one and at the most. */
    private static void promise45Counts() {
        int[] none = {0, 0, 0, 0, 0, 0, 0, 0};
        int[] ones = {1, 1, 1, 1, 1, 1, 1, 0};
        WasteBrook x = new WasteBrook();
        WasteBrook y = Check.of("good g 0;work a;takes a g 1 1 1;gives a g 1;feeds a g 1;joined;");
        Check.plan(y, "stops a 0 0;");
        for (int what = 0; what < 8; what++) {
            CHECK.eq("count(" + what + ") of none", x.count(what), none[what]);
            CHECK.eq("count(" + what + ") of one", y.count(what), ones[what]);
        }
        WasteBrook most = Check.of(MOST);
        CHECK.eq("GOODS", most.count(0), 6);
        CHECK.eq("WORKS", most.count(1), 8);
        for (String sort : new String[] {"gives", "feeds"}) {
            StringBuilder b = new StringBuilder("good a 0;good b 0;good c 0;good d 0;good e 0;good f 0;work p;work q;work r;work s;work t;work u;work v;work w;");
            for (char w = 'p'; w < 'x'; w++) {
                for (char g = 'a'; g < 'g'; g++) {
                    b.append(sort).append(' ').append(w).append(' ').append(g).append(" 1;");
                }
            }
            WasteBrook all = Check.of(b.toString());
            CHECK.eq("all 'gives'", all.count(3), sort.equals("gives") ? 48 : 0);
            CHECK.eq("all 'feeds'", all.count(4), sort.equals("feeds") ? 48 : 0);
            CHECK.eq("no vats", all.count(2), 0);
        }
        StringBuilder b = new StringBuilder("good a 0;good b 0;good c 0;good d 0;good e 0;good f 0;work p;work q;work r;work s;work t;work u;work v;work w;");
        int vats = 0;
        for (char w = 'p'; w < 'x'; w++) {
            for (char g = 'a'; g < 'g' && b.length() + 16 <= 900; g++) {
                b.append("takes ").append(w).append(' ').append(g).append(" 1 1 0;");
                vats++;
            }
        }
        CHECK.eq("as many vats as can be told", Check.of(b.toString()).count(2), vats);
        Check.plan(y, "stops a 0 0;".repeat(20));
        CHECK.eq("LINES of the largest PLAN", y.count(6), 20);
    }

    /** Promise 45: "7 bytes of the tape", 0 to 940. */
    private static void promise45BytesOfTheTape() {
        WasteBrook x = new WasteBrook();
        CHECK.eq("none", x.count(7), 0);
        x.feed(0, 0, 0, 0, 0);
        CHECK.eq("twenty", x.count(7), 20);
        x.end(1);
        CHECK.eq("one", x.count(7), 1);
        x.end(0);
        CHECK.eq("none again", x.count(7), 0);
        for (int i = 0; i < 48; i++) {
            x.feed(0, 0, 0, 0, 0);
        }
        CHECK.eq("the most", x.count(7), 940);
    }

    /** Promise 45: "NONE for another what": -1 and 8. */
    private static void promise45NoneForAnotherWhat() {
        for (int what : new int[] {-1, 8, 9, LEAST, LARGEST}) {
            Twin.same(CHECK, "count(" + what + ")", t -> t.count(what), -1);
        }
        Twin.same(CHECK, "count(0)", t -> t.count(0), 2);
        Twin.same(CHECK, "count(7)", t -> t.count(7), Twin.TAPE.length());
    }
}
