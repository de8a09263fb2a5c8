/** Promises 32 to 38: KINDLED, and what is made if something is told otherwise. */
public final class OtherwiseTest {
    private static final Check CHECK = new Check();

    private OtherwiseTest() {
    }

    public static void main(String[] args) {
        kindle();
        kindledStays();
        wider();
        longer();
        exchanged();
        dry();
        rest();
        theBrookStays();
        CHECK.close("OtherwiseTest");
    }

    /** A ring: a gives what b takes, b what c takes, c what a takes. */
    private static void kindle() {
        WasteBrook x = Check.of("good p 0;good q 0;good r 0;work a;takes a r 3 9 9;gives a p 2;work b;takes b p 2 9 9;gives b q 1;"
            + "work c;takes c q 1 9 9;gives c r 3;joined;");
        CHECK.eq("nobody must go", x.kindle(0, 1), 0);
        CHECK.eq("nobody is brought", x.kindled(), 0);
        CHECK.eq("c by its 1, in the first HOUR", x.kindle(4, 1), 1);
        CHECK.eq("c", x.kindled(), 4);
        CHECK.eq("all in one HOUR: a by its 3", x.kindle(7, 1), 3);
        CHECK.eq("a", x.kindled(), 1);
        CHECK.eq("all in two HOURS: c by its 1", x.kindle(7, 2), 1);
        CHECK.eq("c", x.kindled(), 4);
        CHECK.eq("a and c in one: 3 too", x.kindle(5, 1), 3);
        CHECK.eq("b and c in one: b's 2", x.kindle(6, 1), 2);
        CHECK.eq("b", x.kindled(), 2);
        CHECK.eq("what is had does not count", x.kindle(1, 1), 3);
        CHECK.eq("48 HOURS", x.kindle(7, 48), 1);
        CHECK.eq("49 HOURS", x.kindle(7, 49), -2);
        CHECK.eq("0 HOURS", x.kindle(7, 0), -2);
        CHECK.eq("a set too large", x.kindle(8, 1), -2);
        CHECK.eq("below 0", x.kindle(-1, 1), -2);
        WasteBrook like = Check.of("good p 0;work b;takes b p 1 1 0;work c;takes c p 1 1 0;gives c p 1;joined;");
        CHECK.eq("b by its own or, in two, by c's", like.kindle(1, 2), 1);
        CHECK.eq("of like ones the least set", like.kindled(), 1);
        CHECK.eq("c and b", like.kindle(3, 2), 1);
        CHECK.eq("by c's alone", like.kindled(), 2);
        WasteBrook nothing = Check.of("good p 0;work a;gives a p 1;work b;takes b p 1 1 0;");
        CHECK.eq("who takes nothing is brought nothing", nothing.kindle(3, 1), 0);
        CHECK.eq("nobody", nothing.kindled(), 0);
        WasteBrook fed = Check.of("good p 0;work a 5 5;takes a p 3 3 0;feeds a p 1;work b;takes b p 1 1 1;");
        CHECK.eq("by what is fed", fed.kindle(1, 6), 0);
        CHECK.eq("its hour is not yet", fed.kindle(1, 5), -1);
    }

    private static void kindledStays() {
        WasteBrook x = Check.of("good p 0;work a 5 5;takes a p 3 3 0;");
        CHECK.eq("ahead of any", x.kindled(), -1);
        CHECK.eq("none does", x.kindle(1, 5), -1);
        CHECK.eq("ahead of any that was 0 or above", x.kindled(), -1);
        CHECK.eq("no such", x.kindle(2, 5), -2);
        CHECK.eq("still", x.kindled(), -1);
        CHECK.eq("a", x.kindle(1, 6), 3);
        CHECK.eq("none does", x.kindle(1, 5), -1);
        CHECK.eq("it stays", x.kindled(), 1);
        x.brook();
        CHECK.eq("with another BROOK, too", x.kindled(), 1);
    }

    /** a gives 6 in one hour of the DAY: the larger b's vat, the oftener b goes. */
    private static void wider() {
        String text = "good p 0;good q 0;work a 0 0;gives a p 6;work c;takes c q 1 2 1;work b;takes b p 1 2 0;makes b 4;";
        WasteBrook x = Check.of(text);
        CHECK.eq("b's vat of p", x.wider(1, 12), 20);
        CHECK.eq("99 more", x.wider(99, 200), 20);
        CHECK.eq("in one HOUR all are alike", x.wider(3, 1), 11);
        CHECK.eq("0 more", x.wider(0, 12), -1);
        CHECK.eq("100 more", x.wider(100, 12), -1);
        CHECK.eq("0 HOURS", x.wider(1, 0), -1);
        CHECK.eq("201 HOURS", x.wider(1, 201), -1);
        WasteBrook alike = Check.of("good p 0;good q 0;work a 0 0;gives a p 6;gives a q 6;work b;takes b p 1 2 0;makes b 4;work c;takes c q 1 2 0;makes c 4;");
        CHECK.eq("one vat alone, of like ones the first", alike.wider(1, 12), 10);
        CHECK.eq("no vats", Check.of("good p 0;work a;").wider(1, 1), -1);
        WasteBrook like = Check.of("good p 0;good q 0;work a;takes a q 1 1 0;takes a p 1 1 0;");
        CHECK.eq("of like ones the lesser GOOD", like.wider(1, 10), 0);
        WasteBrook beyond = Check.of("good p 0;work a 0 0;takes a p 9 99 99;feeds a p 9;makes a 1;work b 11 11;takes b p 9 90 90;makes b 50;");
        CHECK.eq("beyond 99", beyond.wider(99, 200), 0);
    }

    private static void longer() {
        WasteBrook x = Check.of("work a 0 3;makes a 2;work b 5 10;makes b 3;work c;makes c 9;");
        CHECK.eq("by 1: b's 3", x.longer(1, 12), 1);
        CHECK.eq("by 2: a's 4", x.longer(2, 12), 0);
        CHECK.eq("in 5 HOURS a", x.longer(1, 5), 0);
        CHECK.eq("in 4 none: the first", x.longer(11, 4), 0);
        CHECK.eq("0 more", x.longer(0, 12), -1);
        CHECK.eq("12 more", x.longer(12, 12), -1);
        CHECK.eq("0 HOURS", x.longer(1, 0), -1);
        CHECK.eq("201 HOURS", x.longer(1, 201), -1);
        CHECK.eq("no WORKS", new WasteBrook().longer(1, 1), -1);
        WasteBrook least = Check.of("work a 0 9;makes a 9;work b 0 8;makes b 7;");
        CHECK.eq("11 at most: 18 by a, 21 by b", least.longer(5, 12), 1);
        CHECK.eq("by 2", least.longer(2, 12), 0);
    }

    private static void exchanged() {
        WasteBrook x = Check.of("good p 1;work b;takes b p 1 1 0;makes b 5;work c;makes c 1;work a;gives a p 2;");
        CHECK.eq("c and a: nothing comes to b all the same; the first", x.exchanged(10), 0);
        WasteBrook y = Check.of("good p 1;work c;makes c 1;work b;takes b p 1 1 0;makes b 5;work a;gives a p 2;");
        CHECK.eq("a above b", y.exchanged(10), 1);
        WasteBrook fed = Check.of("good p 1;work a;work b;feeds b p 2;work c;takes c p 1 3 0;makes c 5;");
        CHECK.eq("what is fed to b goes with it: with c it is above", fed.exchanged(3), 0);
        WasteBrook lost = Check.of("good p 2;work a;feeds a p 2;work b;work c;takes c p 2 2 0;makes c 5;work d;");
        CHECK.eq("too far either way", lost.exchanged(3), 0);
        WasteBrook near = Check.of("good p 1;work a;feeds a p 3;work b;work c;takes c p 2 2 0;makes c 5;");
        CHECK.eq("a comes nearer by b's place, so does c", near.exchanged(3), 0);
        WasteBrook has = Check.of("good p 0;work a 0 0;gives a p 3;work b;takes b p 1 3 2;makes b 2;work c;takes c p 1 2 0;makes c 7;");
        CHECK.eq("c ahead of b", has.exchanged(12), 1);
        WasteBrook hours = Check.of("good p 0;work c;work b 11 11;takes b p 1 9 0;makes b 5;work a 0 0;gives a p 1;");
        CHECK.eq("each with its hours", hours.exchanged(12), 1);
        WasteBrook had = Check.of("good p 0;work b;takes b p 1 2 2;makes b 5;work c;work d;");
        CHECK.eq("with what it has", had.exchanged(12), 0);
        CHECK.eq("0 HOURS", y.exchanged(0), -1);
        CHECK.eq("201 HOURS", y.exchanged(201), -1);
        CHECK.eq("one WORK", Check.of("work a;").exchanged(5), -1);
        CHECK.eq("none", new WasteBrook().exchanged(5), -1);
    }

    private static void dry() {
        WasteBrook x = Check.of("good p 0;good q 0;work a;feeds a p 2;feeds a q 1;takes a p 1 2 1;makes a 3;work b;takes b p 1 4 4;makes b 5;");
        CHECK.eq("p of a", x.dry(0, 0, 6), 6 * 8 - (3 + 4 * 5));
        CHECK.eq("q of a", x.dry(0, 1, 6), 0);
        CHECK.eq("in one HOUR nothing", x.dry(0, 0, 1), 0);
        CHECK.eq("nothing is fed to b", x.dry(1, 0, 6), -1);
        CHECK.eq("WORK 2", x.dry(2, 0, 6), -1);
        CHECK.eq("WORK -1", x.dry(-1, 0, 6), -1);
        CHECK.eq("GOOD 2", x.dry(0, 2, 6), -1);
        CHECK.eq("GOOD -1", x.dry(0, -1, 6), -1);
        CHECK.eq("0 HOURS", x.dry(0, 0, 0), -1);
        CHECK.eq("201 HOURS", x.dry(0, 0, 201), -1);
        // with w a goes, and fills c's vat with p, which b would have by its own hours
        WasteBrook less = Check.of("good p 0;good w 0;work a;feeds a w 1;takes a w 1 1 0;takes a p 1 1 0;feeds a p 1;work b;takes b p 1 1 0;makes b 5;");
        CHECK.eq("more without it", less.dry(0, 1, 4), -15);
    }

    private static void rest() {
        CHECK.eq("all alike", Check.of("work a;makes a 1;").rest(), 0);
        CHECK.eq("no WORKS", new WasteBrook().rest(), -1);
        CHECK.eq("GOODS alone", Check.of("good p 0;").rest(), -1);
        // a vat for twelve HOURS' and what is had for the first DAY: the first DAY's rest is not made good
        WasteBrook x = Check.of("good p 0;work a 0 0;gives a p 6;work b;takes b p 1 9 9;makes b 1;");
        // with a rest on DAY d: 9 are had; of each DAY's 6 all are used but on the first, where 3 are left over
        CHECK.eq("when the vat can take what is not used", x.rest(), restByHand(x));
        // 2 used and 1 fed a HOUR: a full vat can't keep what is fed on DAY 0, and DAY 6 is not made good
        WasteBrook full = Check.of("good p 0;work a;feeds a p 1;takes a p 2 24 24;makes a 1;work b;");
        CHECK.eq("on DAY 1 there is room", full.rest(), 1);
        CHECK.eq("by PLANS, too", restByHand(full), 1);
        // all is used on DAY 0; then nothing is made, whoever rests
        WasteBrook y = Check.of("good p 0;work b 0 2;takes b p 1 3 3;makes b 1;work c 3 11;takes c p 1 9 9;makes c 2;");
        CHECK.eq("any day: the first", y.rest(), 0);
        WasteBrook z = Check.of("good p 0;work a;feeds a p 1;takes a p 9 99 0;makes a 1;");
        // it goes in HOURS 8, 17, .. 80: 9 times in 84 HOURS; resting, what is fed is kept
        CHECK.eq("at the end it can't be made good", z.rest(), 0);
        // the vat holds two DAYS' and is emptied on the second of each two
        WasteBrook v = Check.of("good p 0;work a 0 0;gives a p 1;work b;takes b p 2 9 0;makes b 1;");
        CHECK.eq("a's rest on DAY 0, 2, 4 or 6 costs nothing", v.rest(), 0);
        WasteBrook w = Check.of("good p 0;work a 0 0;gives a p 1;work b;takes b p 2 9 1;makes b 1;");
        CHECK.eq("with one had four times: 0, 2, 4, 6; three but by a rest of no DAY", w.rest(), restByHand(w));
    }

    /** By PLANS in a RUN: all stand on a DAY. */
    private static int restByHand(WasteBrook x) {
        int best = -1;
        int most = -1;
        for (int day = 0; day < 7; day++) {
            Check.plan(x, "stops a " + day * 12 + " " + (day * 12 + 11) + ";stops b " + day * 12 + " " + (day * 12 + 11) + ";");
            x.begin();
            x.on(84);
            if (x.made() > most) {
                most = x.made();
                best = day;
            }
        }
        return best;
    }

    private static void theBrookStays() {
        String text = "good p 0;good q 1;work a 2 5;takes a p 1 4 2;gives a q 2;makes a 3;feeds a p 1;work b;takes b q 2 9 5;makes b 4;";
        WasteBrook x = Check.of(text);
        int before = x.by(3, 50);
        x.wider(9, 20);
        x.longer(3, 20);
        x.exchanged(20);
        x.dry(0, 0, 20);
        x.fed(2);
        x.rest();
        x.kindle(3, 20);
        CHECK.eq("as it was told", x.by(3, 50), before);
        CHECK.eq("SIZE", x.at(0, 0, 1), 4);
        CHECK.eq("TILL", x.work(0, 1), 5);
        CHECK.eq("fed", x.at(0, 0, 4), 1);
        CHECK.eq("HAS", x.at(1, 1, 2), 5);
        CHECK.eq("none is fed to b", x.at(1, 0, 4), 0);
        WasteBrook y = Check.of("good p 0;work c;work b 0 5;takes b p 1 2 0;makes b 5;work a 0 0;gives a p 3;makes a 2;feeds a p 1;");
        int[] first = asked(y);
        CHECK.eq("wider", first[0], 10);
        CHECK.eq("longer", first[1], 2);
        CHECK.eq("exchanged", first[2], 1);
        CHECK.eq("fed", first[3], 10);
        Check.brook(y, "good p 9;work z;takes z p 9 99 99;makes z 99;work y;?");
        for (int i = 0; i < first.length; i++) {
            CHECK.eq("a BROOK with a FAULT changes nothing of it: " + i, asked(y)[i], first[i]);
        }
    }

    private static int[] asked(WasteBrook y) {
        int[] all = new int[5];
        all[0] = y.wider(3, 24);
        Check.brook(y, "good p 9;work z;takes z p 9 99 99;makes z 99;work y;?");
        all[1] = y.longer(2, 24);
        Check.brook(y, "good p 9;work z;takes z p 9 99 99;makes z 99;work y;?");
        all[2] = y.exchanged(24);
        Check.brook(y, "good p 9;work z;takes z p 9 99 99;makes z 99;work y;?");
        all[3] = y.fed(2);
        Check.brook(y, "good p 9;work z;takes z p 9 99 99;makes z 99;work y;?");
        all[4] = y.dry(2, 0, 24);
        return all;
    }
}
