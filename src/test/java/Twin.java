import java.util.NoSuchElementException;

/**
 * Two objects to which all the same was told, so that they have a BROOK, a PLAN, a SENTENCE, a RUN, an
 * image, a text, WORTH, KINDLED, a FAULT and a tape. The call that is tried comes to the one, and what it
 * changed is seen by the other.
 */
final class Twin {
    static final String BROOK = "good w 1;good v 0;work a 0 9;gives a w 5;makes a 2;work b;takes b w 3 6 1;gives b v 1;makes b 7;feeds b v 2;";
    static final String PLAN = "stops a 2 2;brings b w 2 3;";
    /** What is on the tape: as a SENTENCE it has 2 ONES, as a BROOK or a PLAN it has a FAULT. */
    static final String TAPE = "place=1 or went=999";

    /** A call that is tried. */
    interface Call {
        long answer(WasteBrook x);
    }

    private Twin() {
    }

    static WasteBrook full() {
        WasteBrook x = Check.of(BROOK);
        Check.plan(x, PLAN);
        Check.sentence(x, "went>2 and not lets w");
        x.begin();
        x.on(2);
        x.image(0);
        x.on(3);
        x.write();
        x.worth(7);
        x.kindle(2, 3);
        Check.plan(x, "stops a 2 1;");
        Check.put(x, TAPE);
        return x;
    }

    /** A call that answers want, and changes nothing at all. */
    static void same(Check check, String what, Call call, long want) {
        WasteBrook x = full();
        check.eq(what, call.answer(x), want);
        check.same(what + " changes nothing", trail(x, true), trail(full(), true));
    }

    /** A call that throws, and changes nothing at all. */
    static void sameThrown(Check check, String what, Call call) {
        WasteBrook x = full();
        check.throwsNoSuch(what, () -> call.answer(x));
        check.same(what + " changes nothing", trail(x, true), trail(full(), true));
    }

    /** A call that answers want, by which the tape is empty, and changes nothing else; fault() is not looked at. */
    static void tapeAlone(Check check, String what, Call call, long want) {
        WasteBrook x = full();
        check.eq(what, call.answer(x), want);
        check.eq(what + " empties the tape", x.count(7), 0);
        Check.put(x, TAPE);
        check.same(what + " changes nothing else", trail(x, false), trail(full(), false));
    }

    /** All that can be seen now, behind some HOURS more, and as it was kept. */
    private static String trail(WasteBrook x, boolean withFault) {
        StringBuilder b = new StringBuilder();
        b.append("tape ").append(x.count(7));
        if (withFault) {
            b.append(" fault ").append(x.fault());
        }
        b.append(" text");
        for (int i = -1; i < 21; i++) {
            b.append(' ').append(x.byteAt(i));
        }
        b.append("\nnow: ").append(looks(x));
        b.append("\nread: ").append(x.sentence()).append(' ').append(x.said(-1)).append(' ').append(x.said(0));
        x.on(4);
        b.append("\nlater: ").append(looks(x));
        b.append("\nrestored: ").append(x.restore(1)).append(x.restore(0)).append(' ').append(looks(x));
        return b.toString();
    }

    private static String looks(WasteBrook x) {
        StringBuilder b = new StringBuilder();
        for (int what = 0; what < 7; what++) {
            b.append(x.count(what)).append(' ');
        }
        for (int w = 0; w < 2; w++) {
            for (int what = 0; what < 6; what++) {
                b.append(workOf(x, w, what)).append('/').append(x.went(w, what)).append(' ');
            }
            b.append(worthOf(x, w, 0)).append('/').append(worthOf(x, w, 1)).append(' ');
            for (int g = 0; g < 2; g++) {
                for (int what = 0; what < 5; what++) {
                    b.append(x.at(w, g, what)).append(' ');
                }
            }
        }
        b.append(x.vat(1, 0)).append(' ').append(x.comes(1, 0)).append(' ').append(x.lacks(1, 0));
        for (int g = 0; g < 2; g++) {
            b.append(" loss ").append(x.loss(g));
            for (int what = 0; what < 8; what++) {
                b.append(' ').append(x.parts(g, what));
            }
        }
        b.append(" hour ").append(x.hour()).append(" made ").append(x.made()).append(" kindled ").append(x.kindled());
        return b.append(" said ").append(x.said(-1)).append(' ').append(x.said(0)).toString();
    }

    private static String workOf(WasteBrook x, int w, int what) {
        try {
            return "" + x.work(w, what);
        } catch (NoSuchElementException e) {
            return "throws";
        }
    }

    private static String worthOf(WasteBrook x, int w, int what) {
        try {
            return "" + x.worthOf(w, what);
        } catch (NoSuchElementException e) {
            return "throws";
        }
    }
}
