/** Promises 43 and 44: what is kept, and what is not. */
public final class ImageTest {
    private static final Check CHECK = new Check();
    private static final String BROOK = "good w 1;work a;gives a w 5;makes a 2;work b;takes b w 3 6 0;makes b 7;feeds b w 1;good v 0;work c;takes c v 1 1 0;joined;";

    private ImageTest() {
    }

    public static void main(String[] args) {
        places();
        allComesBack();
        theRestStays();
        imagesAreApart();
        anEmptyOne();
        marksAreKept();
        CHECK.close("ImageTest");
    }

    private static void places() {
        WasteBrook x = new WasteBrook();
        int[] odd = {-1, 2, Integer.MIN_VALUE, Integer.MAX_VALUE};
        for (int k : odd) {
            CHECK.no("image(" + k + ")", x.image(k));
            CHECK.no("restore(" + k + ")", x.restore(k));
        }
        CHECK.no("nothing is kept in 0", x.restore(0));
        CHECK.yes("image(1)", x.image(1));
        CHECK.no("nor by an image in 1", x.restore(0));
        CHECK.yes("restore(1)", x.restore(1));
        CHECK.yes("image(0)", x.image(0));
        CHECK.yes("restore(0)", x.restore(0));
    }

    private static String all(WasteBrook x) {
        StringBuilder b = new StringBuilder();
        for (int what = 0; what < 7; what++) {
            b.append(x.count(what)).append(' ');
        }
        for (int w = 0; w < x.count(1); w++) {
            for (int what = 0; what < 6; what++) {
                b.append(x.work(w, what)).append('/').append(x.went(w, what)).append(' ');
            }
            for (int g = 0; g < x.count(0); g++) {
                for (int what = 0; what < 5; what++) {
                    b.append(x.at(w, g, what)).append(' ');
                }
                b.append(x.vat(w, g)).append(' ').append(x.comes(w, g)).append(' ').append(x.lacks(w, g)).append(' ');
            }
        }
        for (int g = 0; g < x.count(0); g++) {
            b.append(x.loss(g)).append(' ');
            for (int what = 0; what < 8; what++) {
                b.append(x.parts(g, what)).append(' ');
            }
        }
        return b.append(x.hour()).append(' ').append(x.said(-1)).append(' ').append(x.said(0)).toString();
    }

    private static WasteBrook filled() {
        WasteBrook x = Check.of(BROOK);
        Check.plan(x, "stops a 5 6;brings b w 9 7;");
        Check.sentence(x, "went>3 and lets w or place=1");
        x.begin();
        x.on(6);
        return x;
    }

    private static void allComesBack() {
        WasteBrook x = filled();
        String kept = all(x);
        x.image(1);
        x.on(5);
        String later = all(x);
        CHECK.no("it goes on", later.equals(kept));
        x.restore(1);
        CHECK.same("restore(1)", all(x), kept);
        x.on(5);
        CHECK.same("and goes on as before, by the PLAN kept", all(x), later);
        Check.brook(x, "good z 3;good y 1;work w 3 4;takes w z 2 4 1;gives w y 2;");
        x.begin();
        x.on(9);
        x.restore(1);
        CHECK.same("restore(1) of another BROOK", all(x), kept);
        CHECK.eq("the NAMES, too", x.write(), "a 5 10;b 6 42;c 0 0;".length());
        CHECK.eq("a", x.byteAt(0), 'a');
        CHECK.eq("b", x.byteAt(7), 'b');
        CHECK.eq("a SENTENCE of them", Check.sentence(x, "finds a and wants w"), 2);
        CHECK.eq("what it makes", x.made(), 52);
    }

    private static void theRestStays() {
        WasteBrook x = filled();
        x.image(0);
        x.on(3);
        x.write();
        x.worth(7);
        x.kindle(2, 3);
        int kindled = x.kindled();
        long worth = x.worthOf(1, 0);
        int third = x.byteAt(2);
        Check.put(x, "good");
        CHECK.eq("a FAULT", x.brook(), -5);
        Check.put(x, "joined;");
        x.restore(0);
        CHECK.eq("the tape stays", x.count(7), 7);
        CHECK.eq("the FAULT stays", x.fault(), 1);
        CHECK.eq("what kindle() told stays", x.kindled(), kindled);
        CHECK.eq("WORTH stays", x.worthOf(1, 0), worth);
        CHECK.eq("the text stays", x.byteAt(2), third);
        CHECK.eq("the tape can be read", x.brook(), 1);
    }

    private static void imagesAreApart() {
        WasteBrook x = filled();
        x.image(0);
        String first = all(x);
        x.on(4);
        Check.plan(x, "stops b 0 199;");
        x.image(1);
        String second = all(x);
        x.restore(0);
        CHECK.same("place 0", all(x), first);
        x.restore(1);
        CHECK.same("place 1", all(x), second);
        x.on(4);
        String third = all(x);
        x.image(0);
        x.restore(1);
        CHECK.same("place 1 is as it was", all(x), second);
        x.restore(0);
        CHECK.same("place 0 is new", all(x), third);
    }

    /** In vats and on the way to the top: a gives in HOUR 0 what it has itself in HOUR 1. */
    private static void marksAreKept() {
        WasteBrook x = Check.of("good p 0;good q 0;work a 0 0;gives a p 1;gives a q 1;work b 2 2;takes b q 1 3 0;work c 1 1;takes c p 1 1 0;feeds c p 1;joined;");
        x.begin();
        x.image(0);
        x.on(1);
        x.image(1);
        x.restore(0);
        Check.plan(x, "stops a 0 199;brings b q 1 0;");
        x.on(3);
        CHECK.eq("no marks were kept in 0: b", x.went(1, 3), 0);
        CHECK.eq("c", x.went(2, 3), 0);
        CHECK.eq("nor where it came from", x.comes(2, 0) + x.comes(1, 1), 0);
        x.restore(1);
        CHECK.eq("LACKS", x.lacks(1, 1), 0);
        x.on(2);
        CHECK.eq("a's were in 1: b", x.went(1, 3), 1);
        CHECK.eq("c", x.went(2, 3), 1);
        CHECK.eq("and that it came from a", x.comes(1, 1), 1);
        WasteBrook y = Check.of("good p 0;work c 1 1;takes c p 1 1 0;work a 0 0;gives a p 1;joined;");
        y.image(0);
        y.begin();
        y.on(1);
        y.image(1);
        y.restore(0);
        y.begin();
        Check.plan(y, "stops a 0 199;");
        y.on(1);
        y.restore(1);
        y.on(1);
        CHECK.eq("a's was on its way", y.went(0, 3), 2);
        CHECK.eq("and came", y.comes(0, 0), 2);
    }

    private static void anEmptyOne() {
        WasteBrook x = new WasteBrook();
        x.image(0);
        Check.brook(x, BROOK);
        x.begin();
        Check.sentence(x, "place=0");
        x.restore(0);
        CHECK.eq("no WORKS", x.count(1), 0);
        CHECK.eq("no RUN", x.hour(), -1);
        CHECK.eq("not joined", x.count(5), 0);
        CHECK.eq("no SENTENCE", x.said(-1), -1);
        WasteBrook y = Check.of(BROOK);
        y.image(0);
        y.begin();
        y.restore(0);
        CHECK.eq("no RUN was kept", y.hour(), -1);
    }
}
