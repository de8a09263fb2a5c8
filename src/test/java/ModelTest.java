import java.util.ArrayList;
import java.util.List;
import java.util.NoSuchElementException;
import java.util.Random;

/** Runs of calls by chance (the same each time), each answer held against the Model. */
public final class ModelTest {
    private static final long THROWN = Long.MIN_VALUE;
    private static final String[] WORDS = {"good", "work", "takes", "gives", "makes", "feeds", "joined", "stops",
        "brings", "or", "and", "not", "wants", "lets", "finds", "went", "stood", "made", "place"};
    private static final String[] ODD = {";", "<", "=", ">", "(", ")", ".", "A", "abcdefg", "a1", "1a", "1000", "0",
        "999", "007", "12", "99", "100", "200", "\n", "\t", "\u00e9", "\u0000", "-"};

    private final Random chance;
    private final WasteBrook x = new WasteBrook();
    private final Model m = new Model();
    private final Check check;
    private final StringBuilder log = new StringBuilder();
    private final List<String> goods = new ArrayList<>();
    private final List<String> works = new ArrayList<>();
    private final List<String> vats = new ArrayList<>();

    private ModelTest(long seed, Check check) {
        this.chance = new Random(seed);
        this.check = check;
    }

    public static void main(String[] args) {
        Check check = new Check();
        int runs = args.length > 0 ? Integer.parseInt(args[0]) : 700;
        for (int seed = 0; seed < runs && check.wrong() == 0; seed++) {
            ModelTest t = new ModelTest(seed, check);
            t.calls(seed % 3 == 0 ? 500 : 150, seed % 5);
            if (check.wrong() != 0) {
                System.out.println("seed " + seed + "\n" + t.log);
            }
        }
        check.close("ModelTest");
    }

    private void calls(int many, int sort) {
        tell("new BROOK", brookText());
        same("brook()", x.brook(), m.brook());
        learnNames();
        for (int i = 0; i < many && check.wrong() == 0; i++) {
            int what = chance.nextInt(100);
            if (what < 3) {
                tell("BROOK", maybeSpoilt(brookText(), sort));
                same("brook()", x.brook(), m.brook());
                same("fault()", x.fault(), m.fault());
                learnNames();
            } else if (what < 7) {
                tell("PLAN", maybeSpoilt(planText(), sort));
                same("plan()", x.plan(), m.plan());
                same("fault()", x.fault(), m.fault());
            } else if (what < 11) {
                tell("SENTENCE", maybeSpoilt(sentenceText(0), sort));
                same("sentence()", x.sentence(), m.sentence());
                same("fault()", x.fault(), m.fault());
            } else if (what < 16) {
                same("begin()", x.begin() ? 1 : 0, m.begin() ? 1 : 0);
            } else if (what < 28) {
                int n = chance.nextInt(10) == 0 ? number(-2, 203) : number(0, 30);
                same("on(" + n + ")", x.on(n), m.on(n));
            } else if (what < 75) {
                look();
            } else if (what < 80) {
                tapeCalls();
            } else {
                dear();
            }
        }
    }

    /** A spoilt BROOK is not taken, and an image brings another back. */
    private void learnNames() {
        m.tellNames(goods, works, vats);
    }

    private void same(String call, long got, long want) {
        log.append(call).append(" -> ").append(got == THROWN ? "throws" : "" + got).append('\n');
        check.eq(call, got, want);
    }

    private int number(int least, int most) {
        return least + chance.nextInt(most - least + 1);
    }

    private int anyWork() {
        return chance.nextInt(8) == 0 ? number(-1, 9) : number(0, Math.max(0, works.size() - 1));
    }

    private int anyGood() {
        return chance.nextInt(8) == 0 ? number(-1, 7) : number(0, Math.max(0, goods.size() - 1));
    }

    private int anyIndex() {
        return chance.nextInt(8) == 0 ? number(-2, 9) : number(0, 5);
    }

    private int anySet() {
        int all = (1 << m.count(1)) - 1;
        return chance.nextInt(12) == 0 ? all + 1 : chance.nextInt(12) == 0 ? -1 : chance.nextInt(4) == 0 ? all : chance.nextInt(all + 1);
    }

    private int anyHours() {
        return chance.nextInt(8) == 0 ? number(-1, 202) : number(1, 60);
    }

    // ---- texts

    private void tell(String what, String text) {
        log.append(what).append(": ").append(text).append('\n');
        x.end(0);
        m.end(0);
        Check.put(x, text);
        m.put(text);
    }

    private String newName() {
        String n = "";
        do {
            n = "";
            int letters = chance.nextInt(3) == 0 ? number(1, 6) : 1;
            for (int i = 0; i < letters; i++) {
                n += (char) ('a' + chance.nextInt(26));
            }
        } while (goods.contains(n) || works.contains(n) || java.util.Arrays.asList(WORDS).contains(n));
        return n;
    }

    private String one(List<String> names) {
        return names.isEmpty() ? "zz" : names.get(chance.nextInt(names.size()));
    }

    private String brookText() {
        goods.clear();
        works.clear();
        vats.clear();
        int manyGoods = chance.nextInt(15) == 0 ? number(0, 6) : number(1, 4);
        int manyWorks = chance.nextInt(15) == 0 ? number(0, 8) : number(1, 6);
        List<String> lines = new ArrayList<>();
        for (int g = 0; g < manyGoods; g++) {
            goods.add(newName());
            lines.add("good " + goods.get(g) + " " + (chance.nextInt(2) == 0 ? 0 : number(0, 3)));
        }
        for (int w = 0; w < manyWorks; w++) {
            works.add(newName());
            int from = number(0, 11);
            lines.add("work " + works.get(w) + (chance.nextInt(3) == 0 ? " " + from + " " + number(from, 11) : ""));
        }
        for (String w : works) {
            if (chance.nextInt(5) > 0) {
                lines.add("makes " + w + " " + number(1, chance.nextInt(9) == 0 ? 99 : 9));
            }
            for (String g : goods) {
                int n = number(1, chance.nextInt(9) == 0 ? 9 : 3);
                if (chance.nextInt(goods.size() + 1) < 2) {
                    int size = number(n, chance.nextInt(9) == 0 ? 99 : n + 6);
                    vats.add(w + " " + g);
                    lines.add("takes " + w + " " + g + " " + n + " " + size + " " + number(0, size));
                }
                if (chance.nextInt(goods.size() + 1) < 1) {
                    lines.add("gives " + w + " " + g + " " + number(1, 6));
                }
                if (chance.nextInt(works.size() * goods.size()) < 2) {
                    lines.add("feeds " + w + " " + g + " " + number(1, 5));
                }
            }
        }
        if (chance.nextInt(2) == 0) {
            lines.add("joined");
        }
        return joined(lines);
    }

    private String joined(List<String> lines) {
        StringBuilder b = new StringBuilder();
        String sign = chance.nextInt(4) == 0 ? " ;\n " : ";";
        for (String line : lines) {
            b.append(line).append(sign);
        }
        return b.length() > 935 ? b.substring(0, 935) : b.toString();
    }

    private String planText() {
        List<String> lines = new ArrayList<>();
        int many = chance.nextInt(12) == 0 ? number(0, 22) : number(0, 5);
        for (int i = 0; i < many; i++) {
            int from = number(0, chance.nextInt(9) == 0 ? 199 : 40);
            if (chance.nextInt(2) == 0) {
                lines.add("stops " + one(works) + " " + from + " " + number(from, Math.min(199, from + 20)));
            } else {
                lines.add("brings " + one(vats) + " " + number(1, chance.nextInt(5) == 0 ? 99 : 9) + " " + from);
            }
        }
        return joined(lines);
    }

    private String sentenceText(int depth) {
        String left = oneText(depth);
        int more = chance.nextInt(3) == 0 ? number(0, 4) : number(0, 1);
        for (int i = 0; i < more; i++) {
            left += (chance.nextInt(2) == 0 ? " or " : " and ") + oneText(depth);
        }
        return left.length() > 900 ? left.substring(0, 900) : left;
    }

    private String oneText(int depth) {
        int what = depth > 9 ? number(3, 9) : number(0, 9);
        String[] compared = {"went", "stood", "made", "place"};
        if (what < 2) {
            return "not " + oneText(depth + 1);
        }
        if (what == 2) {
            return "(" + sentenceText(depth + 1) + ")";
        }
        if (what < 5) {
            return (what == 3 ? "wants " : "lets ") + one(goods);
        }
        if (what == 5) {
            return "finds " + one(works);
        }
        return compared[chance.nextInt(4)] + "<=>".charAt(chance.nextInt(3)) + number(0, chance.nextInt(3) == 0 ? 60 : 8);
    }

    private String maybeSpoilt(String text, int sort) {
        if (chance.nextInt(5) > sort || text.isEmpty()) {
            return text;
        }
        int i = chance.nextInt(text.length());
        int j = Math.min(text.length(), i + number(0, 7));
        String put = "";
        for (int k = chance.nextInt(3); k >= 0; k--) {
            int what = chance.nextInt(5);
            put += what == 0 ? one(goods) : what == 1 ? one(works) : what == 2 ? WORDS[chance.nextInt(WORDS.length)]
                : what == 3 ? "" + number(0, 13) : ODD[chance.nextInt(ODD.length)];
            put += chance.nextInt(3) == 0 ? "" : " ";
        }
        String spoilt = text.substring(0, i) + (chance.nextInt(3) == 0 ? "" : put) + text.substring(j);
        if (chance.nextInt(6) == 0) {
            spoilt += " ".repeat(Math.min(930 - Math.min(930, spoilt.length()), number(0, 930)));
        }
        return spoilt.length() > 940 ? spoilt.substring(0, 940) : spoilt;
    }

    private void tapeCalls() {
        int a = chance.nextInt();
        for (int i = number(0, 50) == 0 ? 50 : 1; i > 0; i--) {
            same("feed(" + a + "..)", x.feed(a, ~a, 0, 255, -1), m.feed(a, ~a, 0, 255, -1));
        }
        int n = number(-1, 30);
        same("end(" + n + ")", x.end(n) ? 1 : 0, m.end(n) ? 1 : 0);
        same("count(7)", x.count(7), m.count(7));
    }

    // ---- what is looked at

    private void look() {
        int w = anyWork();
        int g = anyGood();
        int k = anyIndex();
        String wk = "(" + w + ", " + k + ")";
        String wg = "(" + w + ", " + g + ")";
        switch (chance.nextInt(17)) {
            case 0: same("work" + wk, workOf(w, k), modelWorkOf(w, k)); break;
            case 1: same("at(" + w + ", " + g + ", " + k + ")", x.at(w, g, k), m.at(w, g, k)); break;
            case 2: same("loss(" + g + ")", x.loss(g), m.loss(g)); break;
            case 3: same("hour()", x.hour(), m.hour()); break;
            case 4: same("vat" + wg, x.vat(w, g), m.vat(w, g)); break;
            case 5: same("went" + wk, x.went(w, k), m.went(w, k)); break;
            case 6: same("parts(" + g + ", " + k + ")", x.parts(g, k), m.parts(g, k)); break;
            case 7: same("comes" + wg, x.comes(w, g), m.comes(w, g)); break;
            case 8: same("lacks" + wg, x.lacks(w, g), m.lacks(w, g)); break;
            case 9: same("made()", x.made(), m.made()); break;
            case 10: same("write()", x.write(), m.write()); break;
            case 11: same("byteAt(" + k * 3 + ")", x.byteAt(k * 3), m.byteAt(k * 3)); break;
            case 12: same("said(" + (k - 1) + ")", x.said(k - 1), m.said(k - 1)); break;
            case 13: same("said(-1)", x.said(-1), m.said(-1)); break;
            case 14: same("image(" + k / 3 + ")", x.image(k / 3) ? 1 : 0, m.image(k / 3) ? 1 : 0); break;
            case 15:
                same("restore(" + k / 3 + ")", x.restore(k / 3) ? 1 : 0, m.restore(k / 3) ? 1 : 0);
                learnNames();
                break;
            default: same("count(" + k + ")", x.count(k), m.count(k)); break;
        }
    }

    private long workOf(int w, int what) {
        try {
            return x.work(w, what);
        } catch (NoSuchElementException e) {
            return THROWN;
        }
    }

    private long modelWorkOf(int w, int what) {
        try {
            return m.work(w, what);
        } catch (NoSuchElementException e) {
            return THROWN;
        }
    }

    private long worthOf(int w, int what) {
        try {
            return x.worthOf(w, what);
        } catch (NoSuchElementException e) {
            return THROWN;
        }
    }

    private long modelWorthOf(int w, int what) {
        try {
            return m.worthOf(w, what);
        } catch (NoSuchElementException e) {
            return THROWN;
        }
    }

    // ---- what is worked out

    private void dear() {
        int w = anyWork();
        int g = anyGood();
        int n = anyHours();
        int set = anySet();
        int k = anyIndex();
        switch (chance.nextInt(20)) {
            case 0: same("goes(" + w + ", " + n / 3 + ")", x.goes(w, n / 3), m.goes(w, n / 3)); break;
            case 1: same("goes(" + w + ", " + k + ")", x.goes(w, k), m.goes(w, k)); break;
            case 2: same("order(" + k + ")", x.order(k), m.order(k)); break;
            case 3:
                for (int what = -1; what < 3; what++) {
                    same("again(" + what + ")", x.again(what), m.again(what));
                }
                break;
            case 4: same("by(" + set + ", " + n + ")", x.by(set, n), m.by(set, n)); break;
            case 5: same("needed(" + w + ", " + n + ")", x.needed(w, n), m.needed(w, n)); break;
            case 6: same("worth(" + n + ")", x.worth(n), m.worth(n)); break;
            case 7:
                for (int what = -1; what < 3; what++) {
                    same("worthOf(" + w + ", " + what + ")", worthOf(w, what), modelWorthOf(w, what));
                }
                break;
            case 8: shares(n); break;
            case 9: same("steady(" + set + ")", x.steady(set), m.steady(set)); break;
            case 10: same("steadies(" + k + ")", x.steadies(k), m.steadies(k)); break;
            case 11: same("greatest(" + set + ")", x.greatest(set), m.greatest(set)); break;
            case 12: same("falls(" + w + ")", x.falls(w), m.falls(w)); break;
            case 13: same("fed(" + set + ")", x.fed(set), m.fed(set)); break;
            case 14: same("kindle(" + set + ", " + n + ")", x.kindle(set, n), m.kindle(set, n)); break;
            case 15: same("kindled()", x.kindled(), m.kindled()); break;
            case 16: same("wider(" + k + ", " + n + ")", x.wider(k, n), m.wider(k, n)); break;
            case 17: same("longer(" + k + ", " + n + ")", x.longer(k, n), m.longer(k, n)); break;
            case 18: same("exchanged(" + n + ")", x.exchanged(n), m.exchanged(n)); break;
            default:
                for (int i = 0; i < 6; i++) {
                    same("dry(" + i + ", " + g + ", " + n + ")", x.dry(i, g, n), m.dry(i, g, n));
                }
                same("dry(" + w + ", " + g + ", " + n + ")", x.dry(w, g, n), m.dry(w, g, n));
                same("rest()", x.rest(), m.rest());
                break;
        }
    }

    private void shares(int n) {
        StringBuilder b = new StringBuilder();
        int many = m.count(1) + (chance.nextInt(9) == 0 ? 1 : 0);
        int largest = chance.nextInt(4) == 0 ? 65535 : 255;
        for (int w = 0; w < many; w++) {
            int share = chance.nextInt(largest + 1);
            b.append((char) (share >> 8)).append((char) (share & 255));
        }
        tell("shares", b.toString());
        same("kept(" + n + ")", x.kept(n), m.kept(n));
        same("count(7)", x.count(7), m.count(7));
    }
}
