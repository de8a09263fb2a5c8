import java.util.ArrayList;
import java.util.LinkedHashMap;
import java.util.List;
import java.util.Map;
import java.util.NoSuchElementException;
import java.util.TreeSet;

/**
 * What each call changes, and that all else stays: of every call of the face, with what it may be asked for
 * and with what it refuses, what is seen behind it is held against an object to which it never came. And
 * what counts nothing for which answer: a PLAN, a RUN and a SENTENCE for all that is told 'without a PLAN'.
 */
public final class EdgeStaysTest {
    private static final Check CHECK = new Check();
    private static final String FIRST = "good y 3;work q 2 7;gives q y 4;makes q 5;work r;takes r y 2 9 3;joined;";
    private static final String NOW = "good w 1;good v 0;work a 0 9;gives a w 5;makes a 2;work b;takes b w 3 6 1;gives b v 1;makes b 7;feeds b v 2;";
    private static final String NEXT = "good z 9;work s 1 1;";
    /** For each answer that is of RUNS without a PLAN there is a BROOK in which it would be another one with the PLANS below. */
    private static final String[] WITHOUT_A_PLAN = {"good w 1;good v 0;work a 0 9;takes a v 1 9 2;gives a w 5;makes a 2;work b;takes b w 3 9 1;gives b v 1;makes b 7;"
        + "feeds b v 2;work c 3 8;takes c v 1 5 0;makes c 4;joined;",
        "good w 0;good v 0;work a 3 5;takes a v 1 9 1;work b;takes b w 1 9 0;work c 1 1;takes c v 1 9 1;gives c w 1;joined;",
        "good w 0;good v 0;work a;takes a v 9 9 1;work b;takes b w 9 9 1;work c;takes c v 9 9 0;",
        "good w 0;good v 0;work a;takes a v 9 9 0;work b;feeds b w 1;takes b w 2 9 0;makes b 1;work c;takes c v 9 9 0;",
        "good w 0;good v 0;work a;takes a v 9 9 0;work b;feeds b w 1;takes b w 2 9 9;makes b 1;work c;takes c v 9 9 0;"};

    /** A call that is tried. */
    interface Call {
        Object answer(WasteBrook x);
    }

    private EdgeStaysTest() {
    }

    public static void main(String[] args) {
        callsThatChangeNothing();
        callsThatAreRefused();
        callsThatChangeTheTapeAlone();
        promise4ANewBrook();
        promise9ARunAlone();
        promise20ThePlanAlone();
        promise41TheSentenceAlone();
        whatACallTellsLast();
        promise43And44Places();
        everyCallIsTried();
        withoutAPlan();
        ofTheBrookThatIsThere();
        CHECK.close("EdgeStaysTest");
    }

    /** Of all that can be seen there is something that each call in question would change. */
    private static WasteBrook full() {
        WasteBrook x = Check.of(FIRST);
        Check.plan(x, "stops q 3 4;brings r y 9 2;stops r 0 0;");
        Check.sentence(x, "place=0 and lets y");
        x.begin();
        x.on(7);
        x.kindle(2, 1);
        x.image(0);
        Check.brook(x, NOW);
        Check.plan(x, "stops a 2 2;brings b w 2 3;");
        Check.sentence(x, "place=1 or lets w");
        x.begin();
        x.on(4);
        x.write();
        x.on(1);
        x.worth(7);
        Check.plan(x, "stops a 2 1;");
        Check.put(x, "place=0");
        return x;
    }

    private static final Map<String, Call> SEEN = new LinkedHashMap<>();

    static {
        SEEN.put("tape", x -> x.count(7) + " " + x.sentence() + " " + x.fault());
        SEEN.put("fault", x -> x.fault());
        SEEN.put("text", x -> text(x));
        SEEN.put("worth", x -> worths(x));
        SEEN.put("kindled", x -> x.kindled());
        SEEN.put("brook", x -> brook(x));
        SEEN.put("plan", x -> x.count(6) + " " + x.begin() + x.on(9) + run(x));
        SEEN.put("sentence", x -> x.begin() + " " + x.said(-1) + " " + x.said(0) + " " + x.said(1));
        SEEN.put("run", x -> run(x));
        SEEN.put("place 0", x -> x.restore(0) ? kept(x) : "nothing");
        SEEN.put("place 1", x -> x.restore(1) ? kept(x) : "nothing");
    }

    private static String text(WasteBrook x) {
        StringBuilder b = new StringBuilder();
        for (int i = 0; i < 40; i++) {
            b.append(x.byteAt(i)).append(' ');
        }
        return b.toString();
    }

    private static String worths(WasteBrook x) {
        StringBuilder b = new StringBuilder();
        for (int w = 0; w < 3; w++) {
            try {
                b.append(x.worthOf(w, 0)).append('/').append(x.worthOf(w, 1)).append(' ');
            } catch (NoSuchElementException e) {
                b.append("none ");
            }
        }
        return b.toString();
    }

    private static String brook(WasteBrook x) {
        StringBuilder b = new StringBuilder();
        for (int what = 0; what < 6; what++) {
            b.append(x.count(what)).append(' ');
        }
        for (int g = 0; g < 3; g++) {
            b.append("loss ").append(x.loss(g)).append(' ');
        }
        for (int i = 0; i < 90; i++) {
            b.append(x.at(i / 30, i / 5 % 6, i % 5)).append(' ');
        }
        for (int w = 0; w < x.count(1); w++) {
            b.append(x.work(w, 0)).append(' ').append(x.work(w, 1)).append(' ').append(x.work(w, 2)).append("; ");
        }
        return b.toString();
    }

    private static String run(WasteBrook x) {
        StringBuilder b = new StringBuilder();
        b.append(x.hour()).append(' ').append(x.made()).append(": ");
        for (int w = 0; w < 3; w++) {
            for (int what = 0; what < 6; what++) {
                b.append(x.went(w, what)).append(' ');
            }
            for (int g = 0; g < 3; g++) {
                b.append(x.vat(w, g)).append(' ').append(x.comes(w, g)).append(' ').append(x.lacks(w, g)).append(' ');
            }
        }
        for (int i = 0; i < 24; i++) {
            b.append(x.parts(i / 8, i % 8)).append(' ');
        }
        return b.toString();
    }

    /** What a restore brings: the RUN as it was, what is told, and what the PLAN and the SENTENCE do. */
    private static String kept(WasteBrook x) {
        return "\n" + brook(x) + "\n" + run(x) + "\n" + SEEN.get("sentence").answer(x) + "\n" + SEEN.get("plan").answer(x);
    }

    private static final TreeSet<String> TRIED = new TreeSet<>();

    /** The call answers want, and what is seen behind it is changed in just what is told here. */
    private static void changes(String name, String what, Object want, Call call, String... changed) {
        TRIED.add(name);
        for (Map.Entry<String, Call> seen : SEEN.entrySet()) {
            WasteBrook x = full();
            Object answer = answerOf(call, x);
            CHECK.same(name + " " + what, "" + answer, "" + want);
            String ahead = "" + seen.getValue().answer(full());
            String behind = "" + seen.getValue().answer(x);
            if (List.of(changed).contains(seen.getKey())) {
                CHECK.no(name + " " + what + " changes the " + seen.getKey(), behind.equals(ahead));
            } else {
                CHECK.same(name + " " + what + " leaves the " + seen.getKey(), behind, ahead);
            }
        }
    }

    private static Object answerOf(Call call, WasteBrook x) {
        try {
            return call.answer(x);
        } catch (NoSuchElementException e) {
            return "throws";
        }
    }

    /** Promises 5 to 8, 11 to 19, 21 to 23, 25, 27 to 31, 33 to 38, 40, 42, 45: they tell, and change nothing. */
    private static void callsThatChangeNothing() {
        changes("fault", "", 2, x -> x.fault());
        changes("work", "", 9, x -> x.work(0, 1));
        changes("at", "", 6, x -> x.at(1, 0, 1));
        changes("loss", "", 1, x -> x.loss(0));
        changes("hour", "", 5, x -> x.hour());
        changes("vat", "", 3, x -> x.vat(1, 0));
        changes("went", "", 4, x -> x.went(0, 0));
        changes("parts", "", 20, x -> x.parts(0, 2));
        changes("comes", "", 1, x -> x.comes(1, 0));
        changes("lacks", "", 0, x -> x.lacks(1, 0));
        changes("made", "", 43, x -> x.made());
        changes("goes", "", 1023, x -> x.goes(0, 15));
        changes("order", "", 1, x -> x.order(1));
        changes("again", "", 12, x -> x.again(1));
        changes("by", "", 20, x -> x.by(1, 12));
        changes("needed", "", 63, x -> x.needed(0, 7));
        changes("worthOf", "", 77, x -> x.worthOf(0, 0));
        changes("steady", "", 1, x -> x.steady(3));
        changes("steadies", "", 3, x -> x.steadies(-1));
        changes("greatest", "", 3, x -> x.greatest(3));
        changes("falls", "", 2, x -> x.falls(0));
        changes("fed", "", 30, x -> x.fed(2));
        changes("kindled", "", 2, x -> x.kindled());
        changes("wider", "", 10, x -> x.wider(3, 20));
        changes("longer", "", 0, x -> x.longer(2, 20));
        changes("exchanged", "", 0, x -> x.exchanged(20));
        changes("dry", "", 0, x -> x.dry(1, 1, 20));
        changes("rest", "", 0, x -> x.rest());
        changes("byteAt", "", 97, x -> x.byteAt(0));
        changes("said", "", 2, x -> x.said(-1));
        changes("count", "", 2, x -> x.count(6));
    }

    /** Answers NONE, -2 and false, and "A call that throws changes nothing". */
    private static void callsThatAreRefused() {
        changes("end", "-1", false, x -> x.end(-1));
        changes("end", "8 of 7", false, x -> x.end(8));
        changes("work", "(2, 0)", "throws", x -> x.work(2, 0));
        changes("work", "(0, 6)", "throws", x -> x.work(0, 6));
        changes("worthOf", "(2, 0)", "throws", x -> x.worthOf(2, 0));
        changes("worthOf", "(0, 2)", "throws", x -> x.worthOf(0, 2));
        changes("on", "-1", -1, x -> x.on(-1));
        changes("on", "201", -1, x -> x.on(201));
        changes("on", "0", 0, x -> x.on(0));
        changes("worth", "0", -1, x -> x.worth(0));
        changes("worth", "201", -1, x -> x.worth(201));
        changes("kindle", "(4, 1)", -2, x -> x.kindle(4, 1));
        changes("kindle", "(3, 49)", -2, x -> x.kindle(3, 49));
        changes("image", "2", false, x -> x.image(2));
        changes("image", "-1", false, x -> x.image(-1));
        changes("restore", "2", false, x -> x.restore(2));
        changes("restore", "1, which keeps nothing", false, x -> x.restore(1));
        changes("feed", "behind 921", -1, x -> full(x));
    }

    /** A feed that is refused behind 921 bytes; then the tape is cut to what it had. */
    private static int full(WasteBrook x) {
        Check.put(x, " ".repeat(914));
        int answer = x.feed(1, 2, 3, 4, 5);
        x.end(7);
        return answer;
    }

    /** Promises 2, 3 and 26, and of a FAULT (promises 4, 20 and 41) the tape and its kind. */
    private static void callsThatChangeTheTapeAlone() {
        changes("feed", "", 27, x -> x.feed(0, 0, 0, 0, 0), "tape");
        changes("end", "", true, x -> x.end(6), "tape");
        changes("kept", "", -2, x -> x.kept(12), "tape");
        changes("kept", "of 4 bytes", -1, x -> x.end(4) ? x.kept(12) : 0, "tape");
        changes("brook", "with a FAULT", -1, x -> x.brook(), "tape", "fault");
        changes("plan", "with a FAULT", -1, x -> x.plan(), "tape", "fault");
        changes("sentence", "with a FAULT", -7, x -> x.end(6) ? x.sentence() : 0, "tape", "fault");
    }

    private static int brookOf(WasteBrook x, String text) {
        x.end(0);
        return Check.brook(x, text);
    }

    private static int planOf(WasteBrook x, String text) {
        x.end(0);
        return Check.plan(x, text);
    }

    /** "A new BROOK: no RUN now, no PLAN, no SENTENCE"; text, WORTH, KINDLED and the places stay. */
    private static void promise4ANewBrook() {
        changes("brook", "", 2, x -> brookOf(x, NEXT), "tape", "fault", "brook", "plan", "sentence", "run");
        changes("brook", "of nothing", 0, x -> brookOf(x, ""), "tape", "fault", "brook", "plan", "sentence", "run");
    }

    /** Promises 9 and 10: "A RUN begins", "It goes on": PLAN, SENTENCE and all else stay. */
    private static void promise9ARunAlone() {
        changes("begin", "", true, x -> x.begin(), "run");
        changes("on", "3", 3, x -> x.on(3), "run");
        changes("on", "200", 195, x -> x.on(200), "run");
    }

    /** Promise 20: "The tape is the PLAN now": the RUN goes on by it, the SENTENCE stays. */
    private static void promise20ThePlanAlone() {
        changes("plan", "", 1, x -> planOf(x, "stops b 0 9;"), "tape", "fault", "plan");
        changes("plan", "of nothing", 0, x -> planOf(x, ""), "tape", "fault", "plan");
        WasteBrook x = full();
        planOf(x, "stops b 6 6;");
        x.on(3);
        CHECK.eq("of HOURS 5 to 7 a stood in none", x.went(0, 0), 7);
        CHECK.eq("b in 6 alone", x.went(1, 0), 7);
        CHECK.eq("and went in the latest", x.went(1, 4), 7);
    }

    /** Promise 41: "The tape is the SENTENCE now": the PLAN and the RUN stay. */
    private static void promise41TheSentenceAlone() {
        changes("sentence", "", 1, x -> x.sentence(), "tape", "fault", "sentence");
    }

    /** Promises 24, 32 and 39: what worthOf(), kindled() and byteAt() tell, and no more. */
    private static void whatACallTellsLast() {
        changes("worth", "", 20 + 77, x -> x.worth(12), "worth");
        changes("kindle", "", 0, x -> x.kindle(2, 3), "kindled");
        changes("write", "", 13, x -> x.write(), "text");
    }

    /** Promises 43 and 44: a place has what is there now; what is there is as it was kept. */
    private static void promise43And44Places() {
        changes("image", "0", true, x -> x.image(0), "place 0");
        changes("image", "1", true, x -> x.image(1), "place 1");
        changes("restore", "0", true, x -> x.restore(0), "brook", "plan", "sentence", "run");
    }

    private static void everyCallIsTried() {
        List<String> all = new ArrayList<>();
        for (java.lang.reflect.Method m : WasteBrook.class.getDeclaredMethods()) {
            if (java.lang.reflect.Modifier.isPublic(m.getModifiers())) {
                all.add(m.getName());
            }
        }
        CHECK.same("every call is tried here", TRIED.toString(), new TreeSet<>(all).toString());
    }

    private static final Map<String, Call> ASKED = new LinkedHashMap<>();

    static {
        ASKED.put("goes", x -> each(w -> x.goes(w, 0) + " " + x.goes(w, 2), 3));
        ASKED.put("order", x -> each(k -> x.order(k), 3));
        ASKED.put("again", x -> each(what -> x.again(what), 2));
        ASKED.put("by", x -> each(set -> x.by(set, 1) + " " + x.by(set, 13) + " " + x.by(set, 200), 8));
        ASKED.put("needed", x -> each(w -> x.needed(w, 1) + " " + x.needed(w, 60), 3));
        ASKED.put("worth", x -> x.worth(30) + " " + worths(x));
        ASKED.put("kept", x -> each(share -> keptBy(x, 20 * share), 6));
        ASKED.put("steady", x -> each(set -> x.steady(set), 8));
        ASKED.put("steadies", x -> x.steadies(-1) + " " + each(k -> x.steadies(k), 4));
        ASKED.put("greatest", x -> each(set -> x.greatest(7 - set), 8));
        ASKED.put("falls", x -> each(w -> x.falls(w), 3));
        ASKED.put("fed", x -> each(set -> x.fed(set), 8));
        ASKED.put("kindle", x -> each(set -> x.kindle(set, 4) + " " + x.kindled(), 8));
        ASKED.put("wider", x -> x.wider(1, 12) + " " + x.wider(9, 200));
        ASKED.put("longer", x -> x.longer(1, 12) + " " + x.longer(5, 200));
        ASKED.put("exchanged", x -> x.exchanged(12) + " " + x.exchanged(50));
        ASKED.put("dry", x -> x.dry(1, 0, 9) + " " + x.dry(1, 1, 100));
        ASKED.put("rest", x -> x.rest());
    }

    /** Something that is asked by a number. */
    interface Asked {
        Object by(int i);
    }

    private static String each(Asked asked, int many) {
        StringBuilder b = new StringBuilder();
        for (int i = 0; i < many; i++) {
            b.append(asked.by(i)).append(' ');
        }
        return b.toString();
    }

    private static int keptBy(WasteBrook x, int share) {
        x.feed(share << 16 | share, share << 16, 0, 0, 0);
        x.end(6);
        return x.kept(12);
    }

    /** All answers that are of RUNS without a PLAN, or of no RUN at all. */
    private static String answers(WasteBrook x) {
        StringBuilder b = new StringBuilder();
        for (Map.Entry<String, Call> asked : ASKED.entrySet()) {
            b.append(asked.getKey()).append(' ').append(asked.getValue().answer(x)).append('\n');
        }
        return b.toString();
    }

    /**
     * "(in a RUN without a PLAN", "in a RUN of the BROOK as told (no PLAN)", "from empty vats, no PLAN", promises 17, 18 and 21
     * to 38: with a PLAN that brings, one that stops, one that does both, with a RUN now and a SENTENCE they answer as without.
     */
    private static void withoutAPlan() {
        String brings = "brings a v 9 0;brings b w 9 0;brings c v 9 0;brings a v 9 1;brings b w 9 1;brings c v 9 1;brings b w 9 2;brings c v 9 12;";
        String stops = "stops a 0 5;stops b 1 199;stops c 0 0;stops c 12 40;";
        for (String text : WITHOUT_A_PLAN) {
            for (String plan : new String[] {"", brings, stops, brings + stops}) {
                for (int hours : new int[] {-1, 0, 1, 7, 200}) {
                    withoutThePlan(text, plan, hours);
                }
            }
        }
    }

    private static void withoutThePlan(String text, String plan, int hours) {
        WasteBrook x = Check.of(text);
        int lines = Check.plan(x, plan);
        Check.sentence(x, "went>3");
        if (hours >= 0) {
            x.begin();
            x.on(hours);
        }
        String ahead = run(x);
        CHECK.same("with the PLAN " + plan + " behind " + hours + " HOURS", answers(x), answers(Check.of(text)));
        CHECK.same("the RUN stays", run(x), ahead);
        CHECK.eq("the PLAN stays", x.count(6), lines);
    }

    /** Promise 4, with a FAULT "it stays", and promise 44, "as kept": each answer is of the BROOK that is there, whatever was read last. */
    private static void ofTheBrookThatIsThere() {
        String[] wrong = {"?", "good w 9;work z 1 1;feeds z w 9;makes z 99;work y", NOW + "joined;joined;", WITHOUT_A_PLAN[2] + "work d;gives b v 9;?"};
        for (String text : WITHOUT_A_PLAN) {
            for (Map.Entry<String, Call> asked : ASKED.entrySet()) {
                String due = "" + asked.getValue().answer(Check.of(text));
                for (String other : wrong) {
                    WasteBrook x = Check.of(text);
                    CHECK.yes("a FAULT", Check.brook(x, other) < 0);
                    CHECK.same(asked.getKey() + " behind a FAULT of " + other, "" + asked.getValue().answer(x), due);
                    Check.brook(x, other);
                    x.image(1);
                    Check.brook(x, NEXT);
                    x.restore(1);
                    CHECK.same(asked.getKey() + " as kept behind a FAULT of " + other, "" + asked.getValue().answer(x), due);
                }
                for (String other : new String[] {"", NEXT, NOW, FIRST}) {
                    WasteBrook x = Check.of(text);
                    x.image(0);
                    Check.brook(x, other);
                    x.restore(0);
                    CHECK.same(asked.getKey() + " restored behind " + other, "" + asked.getValue().answer(x), due);
                }
            }
            WasteBrook begun = Check.of(text);
            Check.brook(begun, wrong[1]);
            begun.begin();
            begun.on(15);
            CHECK.same("a RUN of it behind a FAULT", run(begun), run(Check.run(text, 15)));
        }
    }
}
