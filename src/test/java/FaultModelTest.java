import java.util.Random;

/** Texts by chance (the same each time), most of them with FAULTS, held against the Model. */
public final class FaultModelTest {
    private static final String FIRST = "good a 0;good b 1;work p;work q 2 7;takes p a 2 5 1;takes q b 1 3 0;gives p b 3;makes p 4;feeds q a 2;";
    private static final String[] BROOK = {"good c 0;", "good dd 9;", "good c 10;", "good a 1;", "good p 1;", "good e 2;", "good f 3;",
        "work r;", "work s 0 11;", "work t 5 5;", "work u 6 5;", "work r;", "work v 3;", "work w 12 12;", "work x;", "work y;", "work z;",
        "takes p b 9 99 99;", "takes q a 1 1 1;", "takes q a 0 1 1;", "takes p b 3 2 1;", "takes p b 3 100 1;", "takes p b 3 4 5;",
        "takes p a 1 1 1;", "gives q a 9;", "gives q b 0;", "gives p b 1;", "gives a p 1;", "makes q 99;", "makes q 100;", "makes p 1;",
        "makes a 1;", "makes m 1;", "feeds p a 1;", "feeds q a 1;", "feeds p b 10;", "joined;", "joined;", "good or 1;", "work place;",
        "stops p 1 2;", ";", "good c;", "good g 1", " \n", ""};
    private static final String[] PLAN = {"stops p 0 199;", "stops q 5 5;", "stops q 6 5;", "stops p 0 200;", "stops a 1 2;", "stops p 1;",
        "brings p a 1 0;", "brings p a 99 199;", "brings p a 0 1;", "brings p a 100 1;", "brings p a 9 200;", "brings p b 1 1;",
        "brings q b 5 7;", "brings b q 5 7;", "brings q q 5 7;", "stops z 1 2;", "good a 1;", ";", "stops p 1 2", " \n", "stops p 2 3;",
        "brings q b 1 9;", "stops stops 1 2;"};
    private static final String[] SENTENCE = {"not ", "not ", "(", "(", ")", "(", ")", "wants a ", "wants p ", "wants z ", "lets b ", "finds q ",
        "finds a ", "went=1 ", "went<0 ", "stood>999 ", "made=1000 ", "place=7 ", "or ", "and ", "or ", "and ", "went ", "= ", "1 ", ";",
        "wants or ", "good ", "\n"};

    private FaultModelTest() {
    }

    public static void main(String[] args) {
        Check check = new Check();
        Random chance = new Random(7);
        for (int i = 0; i < 60000 && check.wrong() == 0; i++) {
            WasteBrook x = new WasteBrook();
            Model m = new Model();
            String text = FIRST;
            tell(x, m, text);
            check.eq("the first BROOK", x.brook(), m.brook());
            int sort = i % 3;
            text = sort == 2 ? sentence(chance) : lines(chance, sort == 0 ? BROOK : PLAN, sort == 0 ? FIRST : "");
            tell(x, m, text);
            if (sort == 0) {
                check.eq("brook() " + text, x.brook(), m.brook());
            } else if (sort == 1) {
                check.eq("plan() " + text, x.plan(), m.plan());
            } else {
                check.eq("sentence() " + text, x.sentence(), m.sentence());
            }
            check.eq("fault() " + text, x.fault(), m.fault());
            check.eq("count(7) " + text, x.count(7), 0);
            for (int what = 0; what < 8; what++) {
                check.eq("count(" + what + ") " + text, x.count(what), m.count(what));
            }
        }
        check.close("FaultModelTest");
    }

    private static String lines(Random chance, String[] some, String first) {
        StringBuilder b = new StringBuilder(chance.nextInt(8) == 0 ? "" : first);
        int good = chance.nextInt(4) == 0 ? 40 : chance.nextInt(12);
        for (int i = 0; i < good; i++) {
            b.append(some[chance.nextInt(chance.nextInt(3) == 0 ? some.length : 2)]);
        }
        if (chance.nextInt(3) == 0) {
            b.setLength(0);
            b.append(first);
            for (int i = 0; i < 30; i++) {
                b.append(some == PLAN ? some[chance.nextInt(2)] : " \n  ".repeat(chance.nextInt(12)) + some[chance.nextInt(9)]);
            }
        }
        return cut(chance, b, some == PLAN ? 300 : 900);
    }

    private static String sentence(Random chance) {
        StringBuilder b = new StringBuilder();
        int open = 0;
        int many = chance.nextInt(26);
        for (int i = 0; i < many; i++) {
            int nots = chance.nextInt(4) == 0 ? chance.nextInt(9) : 0;
            for (int k = 0; k < nots; k++) {
                boolean bracket = chance.nextBoolean();
                open += bracket ? 1 : 0;
                b.append(bracket ? "(" : "not ");
            }
            b.append(SENTENCE[chance.nextInt(9) == 0 ? chance.nextInt(SENTENCE.length) : 13 + chance.nextInt(3)]);
            while (open > 0 && chance.nextInt(3) > 0) {
                b.append(")");
                open--;
            }
            b.append(i == many - 1 ? "" : chance.nextInt(2) == 0 ? "or " : "and ");
        }
        b.append(")".repeat(open));
        return cut(chance, b, 200);
    }

    /** Often cut or drawn out, so that it ends about where the most bytes are. */
    private static String cut(Random chance, StringBuilder b, int most) {
        int what = chance.nextInt(6);
        if (what == 0 && b.length() > 0) {
            b.setLength(chance.nextInt(b.length()));
        } else if (what == 1 && b.length() < most) {
            b.insert(chance.nextInt(b.length() + 1), " ".repeat(most - b.length()));
            b.append(" \n;".substring(0, chance.nextInt(4)));
        } else if (what == 2 && b.length() > 2) {
            b.deleteCharAt(chance.nextInt(b.length()));
        }
        if (b.length() > 940) {
            b.setLength(940);
        }
        return b.toString();
    }

    private static void tell(WasteBrook x, Model m, String text) {
        Check.put(x, text);
        m.put(text);
    }
}
