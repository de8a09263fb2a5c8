import java.math.BigInteger;
import java.util.ArrayList;
import java.util.Arrays;
import java.util.HashMap;
import java.util.HashSet;
import java.util.LinkedHashMap;
import java.util.List;
import java.util.Map;
import java.util.NoSuchElementException;
import java.util.Set;
import java.util.TreeMap;
import java.util.TreeSet;
import java.util.function.IntPredicate;
import java.util.regex.Matcher;
import java.util.regex.Pattern;

/** The document once more, told in the slowest and plainest way, to hold the class against. */
final class Model {
    private static final Set<String> RESERVED = new HashSet<>(Arrays.asList(
        "good", "work", "takes", "gives", "makes", "feeds", "joined", "stops", "brings", "or", "and",
        "not", "wants", "lets", "finds", "went", "stood", "made", "place"));

    static final class Fault extends Exception {
        private static final long serialVersionUID = 1L;
        final int place;
        final int kind;

        Fault(int place, int kind) {
            this.place = place;
            this.kind = kind;
        }
    }

    static final class Token {
        final String text;
        final int place;

        Token(String text, int place) {
            this.text = text;
            this.place = place;
        }

        boolean isName() {
            return text.matches("[a-z]{1,6}") && !RESERVED.contains(text);
        }

        boolean isNumber() {
            return text.matches("[0-9]{1,3}");
        }
    }

    /** All TOKENS of a text; "" is the end, "?" is no TOKEN. */
    static List<Token> tokens(String text, int most) {
        List<Token> all = new ArrayList<>();
        Matcher m = Pattern.compile("[a-z0-9]+|[^ \n]", Pattern.DOTALL).matcher(text);
        while (m.find()) {
            if (m.start() >= most) {
                break;
            }
            boolean is = m.group().matches("[a-z]{1,6}|[0-9]{1,3}|[;<=>()]");
            all.add(new Token(is ? m.group() : "?", m.start()));
        }
        all.add(text.length() > most ? new Token("?", most) : new Token("", text.length()));
        return all;
    }

    /** Reads TOKENS one by one. */
    static final class Reader {
        final List<Token> all;
        int at;

        Reader(String text, int most) {
            all = tokens(text, most);
        }

        Token see() {
            return all.get(at);
        }

        Token next() {
            Token t = all.get(at);
            if (at < all.size() - 1) {
                at++;
            }
            return t;
        }

        void sign(String s) throws Fault {
            if (!see().text.equals(s)) {
                throw new Fault(see().place, 1);
            }
            next();
        }

        int number(int least, int most) throws Fault {
            Token t = next();
            if (!t.isNumber()) {
                throw new Fault(t.place, 1);
            }
            int n = Integer.parseInt(t.text);
            if (n < least || n > most) {
                throw new Fault(t.place, 2);
            }
            return n;
        }

        Token name() throws Fault {
            Token t = next();
            if (!t.isName()) {
                throw new Fault(t.place, 1);
            }
            return t;
        }

        int known(List<String> names) throws Fault {
            Token t = name();
            if (!names.contains(t.text)) {
                throw new Fault(t.place, 3);
            }
            return names.indexOf(t.text);
        }
    }

    static final class Work {
        int from;
        int till = 11;
        int makes;
        /** By GOOD: N, SIZE, HAS. */
        final Map<Integer, int[]> takes = new TreeMap<>();
        final Map<Integer, Integer> gives = new TreeMap<>();
        final Map<Integer, Integer> feeds = new TreeMap<>();

        Work copy() {
            Work w = new Work();
            w.from = from;
            w.till = till;
            w.makes = makes;
            for (Map.Entry<Integer, int[]> e : takes.entrySet()) {
                w.takes.put(e.getKey(), e.getValue().clone());
            }
            w.gives.putAll(gives);
            w.feeds.putAll(feeds);
            return w;
        }
    }

    static final class Spec {
        final List<String> goods = new ArrayList<>();
        final List<Integer> loss = new ArrayList<>();
        final List<String> names = new ArrayList<>();
        final List<Work> works = new ArrayList<>();
        boolean joined;
        int lines;

        Spec copy() {
            Spec s = new Spec();
            s.goods.addAll(goods);
            s.loss.addAll(loss);
            s.names.addAll(names);
            for (Work w : works) {
                s.works.add(w.copy());
            }
            s.joined = joined;
            s.lines = lines;
            return s;
        }

        int all() {
            return (1 << works.size()) - 1;
        }

        static Spec read(String text) throws Fault {
            Spec s = new Spec();
            Reader r = new Reader(text, 900);
            while (!r.see().text.isEmpty()) {
                s.line(r);
                r.sign(";");
                s.lines++;
            }
            return s;
        }

        private void line(Reader r) throws Fault {
            Token first = r.next();
            switch (first.text) {
                case "good":
                    if (goods.size() == 6) {
                        throw new Fault(first.place, 4);
                    }
                    goods.add(fresh(r));
                    loss.add(r.number(0, 9));
                    break;
                case "work":
                    if (works.size() == 8) {
                        throw new Fault(first.place, 4);
                    }
                    names.add(fresh(r));
                    Work w = new Work();
                    works.add(w);
                    if (r.see().isNumber()) {
                        w.from = r.number(0, 11);
                        w.till = r.number(w.from, 11);
                    }
                    break;
                case "takes":
                    Work taker = works.get(r.known(names));
                    int g = unused(r, taker.takes.keySet());
                    int n = r.number(1, 9);
                    int size = r.number(n, 99);
                    taker.takes.put(g, new int[] {n, size, r.number(0, size)});
                    break;
                case "gives":
                    Work giver = works.get(r.known(names));
                    giver.gives.put(unused(r, giver.gives.keySet()), r.number(1, 9));
                    break;
                case "feeds":
                    Work fed = works.get(r.known(names));
                    fed.feeds.put(unused(r, fed.feeds.keySet()), r.number(1, 9));
                    break;
                case "makes":
                    int place = r.see().place;
                    Work maker = works.get(r.known(names));
                    if (maker.makes > 0) {
                        throw new Fault(place, 3);
                    }
                    maker.makes = r.number(1, 99);
                    break;
                case "joined":
                    if (joined) {
                        throw new Fault(first.place, 3);
                    }
                    joined = true;
                    break;
                default:
                    throw new Fault(first.place, 1);
            }
        }

        private String fresh(Reader r) throws Fault {
            Token t = r.name();
            if (goods.contains(t.text) || names.contains(t.text)) {
                throw new Fault(t.place, 3);
            }
            return t.text;
        }

        private int unused(Reader r, Set<Integer> used) throws Fault {
            int place = r.see().place;
            int g = r.known(goods);
            if (used.contains(g)) {
                throw new Fault(place, 3);
            }
            return g;
        }
    }

    /** A LINE of a PLAN: stops (WORK, FROM, TILL) or brings (WORK, GOOD, N, HOUR). */
    static List<int[]> readPlan(String text, Spec s) throws Fault {
        List<int[]> lines = new ArrayList<>();
        Reader r = new Reader(text, 300);
        while (!r.see().text.isEmpty()) {
            Token first = r.next();
            if (!first.text.equals("stops") && !first.text.equals("brings")) {
                throw new Fault(first.place, 1);
            }
            if (lines.size() == 20) {
                throw new Fault(first.place, 4);
            }
            int w = r.known(s.names);
            if (first.text.equals("stops")) {
                int from = r.number(0, 199);
                lines.add(new int[] {w, from, r.number(from, 199)});
            } else {
                int place = r.see().place;
                int g = r.known(s.goods);
                if (!s.works.get(w).takes.containsKey(g)) {
                    throw new Fault(place, 3);
                }
                int n = r.number(1, 99);
                lines.add(new int[] {w, g, n, r.number(0, 199)});
            }
            r.sign(";");
        }
        return lines;
    }

    /** Something with the marks of all that was mixed in it. */
    static final class Mix {
        int n;
        Set<Integer> marks = new TreeSet<>();
        Set<Integer> givers = new TreeSet<>();

        Mix copy() {
            Mix m = new Mix();
            m.n = n;
            m.marks.addAll(marks);
            m.givers.addAll(givers);
            return m;
        }

        void less(int by) {
            n -= by;
            if (n == 0) {
                marks.clear();
                givers.clear();
            }
        }
    }

    /** A RUN, HOUR by HOUR; vats and such are keyed by WORK * 10 + GOOD. */
    static final class Sim {
        final Spec s;
        int hours;
        final Map<Integer, Mix> vats = new TreeMap<>();
        final Map<Integer, Set<Integer>> comes = new HashMap<>();
        final Map<Integer, Integer> lacks = new HashMap<>();
        final Map<Integer, Mix> way = new TreeMap<>();
        final List<Set<Integer>> wentAt = new ArrayList<>();
        final List<Set<Integer>> found = new ArrayList<>();
        final int[][] parts = new int[6][6];

        Sim(Spec s) {
            this.s = s;
            for (int w = 0; w < s.works.size(); w++) {
                wentAt.add(new TreeSet<>());
                found.add(new TreeSet<>());
                for (Map.Entry<Integer, int[]> e : s.works.get(w).takes.entrySet()) {
                    Mix m = new Mix();
                    m.n = e.getValue()[2];
                    vats.put(w * 10 + e.getKey(), m);
                    comes.put(w * 10 + e.getKey(), new TreeSet<>());
                    lacks.put(w * 10 + e.getKey(), 0);
                }
            }
            for (int g = 0; g < s.goods.size(); g++) {
                way.put(g, new Mix());
            }
        }

        Sim copy() {
            Sim c = new Sim(s);
            c.hours = hours;
            for (int key : vats.keySet()) {
                c.vats.put(key, vats.get(key).copy());
                c.comes.get(key).addAll(comes.get(key));
                c.lacks.put(key, lacks.get(key));
            }
            for (int g : way.keySet()) {
                c.way.put(g, way.get(g).copy());
            }
            for (int w = 0; w < wentAt.size(); w++) {
                c.wentAt.get(w).addAll(wentAt.get(w));
                c.found.get(w).addAll(found.get(w));
            }
            for (int g = 0; g < 6; g++) {
                c.parts[g] = parts[g].clone();
            }
            return c;
        }

        void loss() {
            for (int g : way.keySet()) {
                int lost = Math.min(way.get(g).n, s.loss.get(g));
                parts[g][4] += lost;
                way.get(g).less(lost);
            }
        }

        void hour(List<int[]> plan, IntPredicate stands) {
            for (int[] line : plan) {
                if (line.length == 4 && line[3] == hours) {
                    Mix vat = vats.get(line[0] * 10 + line[1]);
                    int room = s.works.get(line[0]).takes.get(line[1])[1] - vat.n;
                    vat.n += Math.min(room, line[2]);
                    parts[line[1]][1] += line[2];
                    parts[line[1]][4] += Math.max(0, line[2] - room);
                }
            }
            if (s.joined) {
                loss();
            }
            for (int w = 0; w < s.works.size(); w++) {
                boolean stopped = stands.test(w);
                for (int[] line : plan) {
                    if (line.length == 3 && line[0] == w && line[1] <= hours && hours <= line[2]) {
                        stopped = true;
                    }
                }
                one(w, stopped);
                if (w + 1 < s.works.size()) {
                    loss();
                }
            }
            if (!s.joined) {
                for (int g : way.keySet()) {
                    parts[g][5] += way.get(g).n;
                    way.get(g).less(way.get(g).n);
                }
            }
            hours++;
        }

        private void one(int w, boolean stopped) {
            Work k = s.works.get(w);
            for (int g : k.feeds.keySet()) {
                way.get(g).n += k.feeds.get(g);
                parts[g][0] += k.feeds.get(g);
            }
            for (int g : k.takes.keySet()) {
                Mix vat = vats.get(w * 10 + g);
                Mix stream = way.get(g);
                while (vat.n < k.takes.get(g)[1] && stream.n > 0) {
                    vat.n++;
                    vat.marks.addAll(stream.marks);
                    comes.get(w * 10 + g).addAll(stream.givers);
                    stream.less(1);
                }
            }
            if (stopped || hours % 12 < k.from || hours % 12 > k.till) {
                return;
            }
            boolean can = true;
            for (int g : k.takes.keySet()) {
                if (vats.get(w * 10 + g).n < k.takes.get(g)[0]) {
                    lacks.merge(w * 10 + g, 1, Integer::sum);
                    can = false;
                }
            }
            if (can) {
                go(w, k);
            }
        }

        private void go(int w, Work k) {
            Set<Integer> used = new TreeSet<>();
            for (int g : k.takes.keySet()) {
                used.addAll(vats.get(w * 10 + g).marks);
                vats.get(w * 10 + g).less(k.takes.get(g)[0]);
                parts[g][3] += k.takes.get(g)[0];
            }
            found.get(w).addAll(used);
            for (int g : k.gives.keySet()) {
                Mix stream = way.get(g);
                stream.n += k.gives.get(g);
                stream.marks.addAll(used);
                stream.marks.add(w);
                stream.givers.add(w);
                parts[g][2] += k.gives.get(g);
            }
            wentAt.get(w).add(hours);
        }

        String state() {
            StringBuilder b = new StringBuilder();
            for (Mix m : vats.values()) {
                b.append(m.n).append(' ');
            }
            for (Mix m : way.values()) {
                b.append(m.n).append(',');
            }
            return b.append(hours % 12).toString();
        }

        int made() {
            int sum = 0;
            for (int w = 0; w < s.works.size(); w++) {
                sum += wentAt.get(w).size() * s.works.get(w).makes;
            }
            return sum;
        }
    }

    static Sim after(Spec s, int hours, IntPredicate stands) {
        Sim sim = new Sim(s);
        for (int h = 0; h < hours; h++) {
            sim.hour(new ArrayList<>(), stands);
        }
        return sim;
    }

    static int made(Spec s, int set, int hours) {
        return after(s, hours, w -> (set >> w & 1) == 0).made();
    }

    static int bits(Set<Integer> set) {
        int b = 0;
        for (int i : set) {
            b |= 1 << i;
        }
        return b;
    }

    // ---- SENTENCES

    /** What may be said of a WORK in a RUN. */
    interface Cond {
        boolean of(Sim run, int w);
    }

    static final class SentenceReader {
        final Reader r;
        final Spec s;
        int ones;

        SentenceReader(String text, Spec s) {
            r = new Reader(text, 200);
            this.s = s;
        }

        Cond whole() throws Fault {
            Cond c = cond(0);
            r.sign("");
            return c;
        }

        private Cond cond(int around) throws Fault {
            Cond left = all(around);
            while (r.see().text.equals("or")) {
                r.next();
                Cond a = left;
                Cond b = all(around);
                left = (run, w) -> a.of(run, w) || b.of(run, w);
            }
            return left;
        }

        private Cond all(int around) throws Fault {
            Cond left = one(around);
            while (r.see().text.equals("and")) {
                r.next();
                Cond a = left;
                Cond b = one(around);
                left = (run, w) -> a.of(run, w) && b.of(run, w);
            }
            return left;
        }

        private Cond one(int around) throws Fault {
            Token t = r.next();
            if (!Arrays.asList("not", "(", "wants", "lets", "finds", "went", "stood", "made", "place").contains(t.text)) {
                throw new Fault(t.place, 1);
            }
            if (++ones > 20 || around >= 8) {
                throw new Fault(t.place, 4);
            }
            switch (t.text) {
                case "not":
                    Cond negated = one(around + 1);
                    return (run, w) -> !negated.of(run, w);
                case "(":
                    Cond inner = cond(around + 1);
                    r.sign(")");
                    return inner;
                case "wants":
                    int wanted = r.known(s.goods);
                    return (run, w) -> s.works.get(w).takes.containsKey(wanted);
                case "lets":
                    int let = r.known(s.goods);
                    return (run, w) -> s.works.get(w).gives.containsKey(let);
                case "finds":
                    int found = r.known(s.names);
                    return (run, w) -> run.found.get(w).contains(found);
                default:
                    return comparison(t.text);
            }
        }

        private Cond comparison(String what) throws Fault {
            Token sign = r.next();
            if (!sign.text.matches("[<=>]")) {
                throw new Fault(sign.place, 1);
            }
            int n = r.number(0, 999);
            return (run, w) -> {
                int went = run.wentAt.get(w).size();
                int v = what.equals("went") ? went : what.equals("stood") ? run.hours - went
                    : what.equals("made") ? went * s.works.get(w).makes : w;
                return sign.text.equals("<") ? v < n : sign.text.equals("=") ? v == n : v > n;
            };
        }
    }

    // ---- the calls

    private String tape = "";
    private Spec spec = new Spec();
    private List<int[]> plan = new ArrayList<>();
    private Cond sentence;
    private Sim run;
    private int fault;
    private String text = "";
    private int kindled = -1;
    private BigInteger[][] worth = new BigInteger[0][];
    private final Map<Integer, Object[]> images = new LinkedHashMap<>();

    int feed(int... numbers) {
        if (tape.length() + 20 > 940) {
            return -1;
        }
        StringBuilder b = new StringBuilder(tape);
        for (int n : numbers) {
            for (int shift = 24; shift >= 0; shift -= 8) {
                b.append((char) (n >>> shift & 255));
            }
        }
        tape = b.toString();
        return tape.length();
    }

    /** As Check.put does on the class's tape. */
    void put(String told) {
        int had = tape.length();
        for (int i = 0; i < told.length(); i += 20) {
            int[] n = new int[5];
            for (int j = 0; j < 20; j++) {
                n[j / 4] = n[j / 4] << 8 | (i + j < told.length() ? told.charAt(i + j) : 0);
            }
            feed(n);
        }
        end(had + told.length());
    }

    boolean end(int n) {
        if (n < 0 || n > tape.length()) {
            return false;
        }
        tape = tape.substring(0, n);
        return true;
    }

    /** NAMES as they are now; a vat as its WORK and its GOOD. */
    void tellNames(List<String> goods, List<String> works, List<String> vats) {
        goods.clear();
        works.clear();
        vats.clear();
        goods.addAll(spec.goods);
        works.addAll(spec.names);
        for (int w = 0; w < works.size(); w++) {
            for (int g : spec.works.get(w).takes.keySet()) {
                vats.add(works.get(w) + " " + goods.get(g));
            }
        }
    }

    private String takeTape() {
        String t = tape;
        tape = "";
        return t;
    }

    private int failed(Fault f) {
        fault = f.kind;
        return -1 - f.place;
    }

    int brook() {
        try {
            spec = Spec.read(takeTape());
        } catch (Fault f) {
            return failed(f);
        }
        fault = 0;
        run = null;
        plan = new ArrayList<>();
        sentence = null;
        return spec.lines;
    }

    int plan() {
        try {
            plan = readPlan(takeTape(), spec);
        } catch (Fault f) {
            return failed(f);
        }
        fault = 0;
        return plan.size();
    }

    int sentence() {
        SentenceReader r = new SentenceReader(takeTape(), spec);
        try {
            sentence = r.whole();
        } catch (Fault f) {
            return failed(f);
        }
        fault = 0;
        return r.ones;
    }

    int fault() {
        return fault;
    }

    private boolean isWork(int w) {
        return w >= 0 && w < spec.works.size();
    }

    private boolean isGood(int g) {
        return g >= 0 && g < spec.goods.size();
    }

    private boolean isSet(int set) {
        return set >= 0 && set < 1 << spec.works.size();
    }

    int work(int w, int what) {
        if (!isWork(w) || what < 0 || what > 5) {
            throw new NoSuchElementException();
        }
        Work k = spec.works.get(w);
        return new int[] {k.from, k.till, k.makes, bits(k.takes.keySet()), bits(k.gives.keySet()), bits(k.feeds.keySet())}[what];
    }

    int at(int w, int g, int what) {
        if (!isWork(w) || !isGood(g) || what < 0 || what > 4) {
            return -1;
        }
        Work k = spec.works.get(w);
        if (what < 3) {
            return k.takes.getOrDefault(g, new int[3])[what];
        }
        return (what == 3 ? k.gives : k.feeds).getOrDefault(g, 0);
    }

    int loss(int g) {
        return isGood(g) ? spec.loss.get(g) : -1;
    }

    boolean begin() {
        if (spec.works.isEmpty()) {
            return false;
        }
        run = new Sim(spec);
        return true;
    }

    int on(int hours) {
        if (run == null || hours < 0 || hours > 200) {
            return -1;
        }
        int done = 0;
        while (done < hours && run.hours < 200) {
            run.hour(plan, w -> false);
            done++;
        }
        return done;
    }

    int hour() {
        return run == null ? -1 : run.hours;
    }

    private boolean noVat(int w, int g) {
        return run == null || g < 0 || g > 9 || !run.vats.containsKey(w * 10 + g);
    }

    int vat(int w, int g) {
        return noVat(w, g) ? -1 : run.vats.get(w * 10 + g).n;
    }

    int comes(int w, int g) {
        return noVat(w, g) ? -1 : bits(run.comes.get(w * 10 + g));
    }

    int lacks(int w, int g) {
        return noVat(w, g) ? -1 : run.lacks.get(w * 10 + g);
    }

    int went(int w, int what) {
        if (run == null || !isWork(w) || what < 0 || what > 5) {
            return -1;
        }
        Set<Integer> at = run.wentAt.get(w);
        int last = -1;
        for (int h : at) {
            last = Math.max(last, h);
        }
        return new int[] {at.size(), run.hours - at.size(), at.size() * spec.works.get(w).makes,
            bits(run.found.get(w)), last, at.contains(run.hours - 1) ? 1 : 0}[what];
    }

    int parts(int g, int what) {
        if (run == null || !isGood(g) || what < 0 || what > 7) {
            return -1;
        }
        if (what < 6) {
            return run.parts[g][what];
        }
        if (what == 7) {
            return run.way.get(g).n;
        }
        int sum = 0;
        for (int key : run.vats.keySet()) {
            sum += key % 10 == g ? run.vats.get(key).n : 0;
        }
        return sum;
    }

    int goes(int w, int day) {
        if (!isWork(w) || day < 0 || day > 15) {
            return -1;
        }
        int b = 0;
        for (int h : after(spec, 200, x -> false).wentAt.get(w)) {
            b |= h / 12 == day ? 1 << h % 12 : 0;
        }
        return b;
    }

    int order(int k) {
        Sim sim = after(spec, 200, x -> false);
        List<Integer> keys = new ArrayList<>();
        for (int w = 0; w < spec.works.size(); w++) {
            if (!sim.wentAt.get(w).isEmpty()) {
                keys.add(((TreeSet<Integer>) sim.wentAt.get(w)).first() * 10 + w);
            }
        }
        keys.sort(null);
        return k >= 0 && k < keys.size() ? keys.get(k) % 10 : -1;
    }

    int made() {
        return run == null ? -1 : run.made();
    }

    int again(int what) {
        List<String> states = new ArrayList<>();
        Sim sim = new Sim(spec);
        for (int h = 0; h < 200; h++) {
            sim.hour(new ArrayList<>(), x -> false);
            states.add(sim.state());
        }
        for (int m = 0; m < 200; m++) {
            for (int k = 1; m + k < 200; k++) {
                if (states.get(m).equals(states.get(m + k))) {
                    return what == 0 ? m : what == 1 ? k : -1;
                }
            }
        }
        return -1;
    }

    int by(int set, int n) {
        return isSet(set) && n >= 1 && n <= 200 ? made(spec, set, n) : -1;
    }

    int needed(int w, int n) {
        if (!isWork(w) || n < 1 || n > 200) {
            return -1;
        }
        return made(spec, spec.all(), n) - made(spec, spec.all() - (1 << w), n);
    }

    /** By all orders one by one, as the document tells it. */
    int worth(int n) {
        int many = spec.works.size();
        if (many == 0 || n < 1 || n > 200) {
            return -1;
        }
        int[] table = new int[1 << many];
        for (int set = 0; set < table.length; set++) {
            table[set] = made(spec, set, n);
        }
        long[] sums = new long[many];
        long orders = addOrders(table, 0, many, sums);
        worth = new BigInteger[many][2];
        for (int w = 0; w < many; w++) {
            BigInteger above = BigInteger.valueOf(sums[w]);
            BigInteger below = BigInteger.valueOf(orders);
            BigInteger d = above.gcd(below);
            worth[w][0] = above.divide(d);
            worth[w][1] = below.divide(d);
        }
        return table[table.length - 1];
    }

    private static long addOrders(int[] table, int there, int many, long[] sums) {
        if (there == table.length - 1) {
            return 1;
        }
        long orders = 0;
        for (int w = 0; w < many; w++) {
            if ((there >> w & 1) == 0) {
                long with = addOrders(table, there | 1 << w, many, sums);
                sums[w] += with * (table[there | 1 << w] - table[there]);
                orders += with;
            }
        }
        return orders;
    }

    long worthOf(int w, int what) {
        if (w < 0 || w >= worth.length || what < 0 || what > 1) {
            throw new NoSuchElementException();
        }
        return worth[w][what].longValueExact();
    }

    int kept(int n) {
        String t = takeTape();
        if (n < 1 || n > 200 || t.length() != 2 * spec.works.size()) {
            return -2;
        }
        for (int set = 0; set <= spec.all(); set++) {
            int share = 0;
            for (int w = 0; w < spec.works.size(); w++) {
                share += (set >> w & 1) * (t.charAt(2 * w) * 256 + t.charAt(2 * w + 1));
            }
            if (made(spec, set, n) > share) {
                return set;
            }
        }
        return -1;
    }

    private static boolean isSteady(Spec s, int set) {
        int[] stream = new int[s.goods.size()];
        for (int w = 0; w < s.works.size(); w++) {
            Work k = s.works.get(w);
            for (int g : k.feeds.keySet()) {
                stream[g] += k.feeds.get(g);
            }
            if ((set >> w & 1) == 1) {
                for (int g : k.takes.keySet()) {
                    stream[g] -= k.takes.get(g)[0];
                    if (stream[g] < 0) {
                        return false;
                    }
                }
                for (int g : k.gives.keySet()) {
                    stream[g] += k.gives.get(g);
                }
            }
            for (int g = 0; g < stream.length; g++) {
                stream[g] = Math.max(0, stream[g] - s.loss.get(g));
            }
        }
        return true;
    }

    private List<Integer> allSteady() {
        List<Integer> all = new ArrayList<>();
        for (int set = 0; set <= spec.all(); set++) {
            if (isSteady(spec, set)) {
                all.add(set);
            }
        }
        return all;
    }

    int steady(int set) {
        return !isSet(set) ? -1 : isSteady(spec, set) ? 1 : 0;
    }

    int steadies(int k) {
        List<Integer> all = allSteady();
        return k == -1 ? all.size() : k >= 0 && k < all.size() ? all.get(k) : -1;
    }

    int greatest(int set) {
        if (!isSet(set)) {
            return -1;
        }
        int best = -1;
        for (int s : allSteady()) {
            if ((s | set) == set && (best == -1 || Integer.bitCount(s) > Integer.bitCount(best))) {
                best = s;
            }
        }
        return best;
    }

    int falls(int w) {
        int g = greatest(spec.all());
        if (!isWork(w) || (g >> w & 1) == 0) {
            return -1;
        }
        return (g - (1 << w)) & ~greatest(spec.all() - (1 << w));
    }

    int fed(int set) {
        if (!isSet(set) || set == 0) {
            return -1;
        }
        if (isSteady(spec, set)) {
            return 0;
        }
        int first = 0;
        while ((set >> first & 1) == 0) {
            first++;
        }
        for (int n = 1; n <= 99; n++) {
            for (int g = 0; g < spec.goods.size(); g++) {
                Spec s = spec.copy();
                s.works.get(first).feeds.merge(g, n, Integer::sum);
                if (isSteady(s, set)) {
                    return 10 * n + g;
                }
            }
        }
        return -1;
    }

    int kindle(int set, int n) {
        if (!isSet(set) || n < 1 || n > 48) {
            return -2;
        }
        int least = -1;
        int who = 0;
        for (int some = spec.all(); some >= 0; some--) {
            Spec s = spec.copy();
            int brought = 0;
            for (int w = 0; w < s.works.size(); w++) {
                for (int[] t : s.works.get(w).takes.values()) {
                    t[2] = (some >> w & 1) * t[0];
                    brought += t[2];
                }
            }
            if (least != -1 && brought > least) {
                continue;
            }
            Sim sim = after(s, n, x -> false);
            boolean all = true;
            for (int w = 0; w < s.works.size(); w++) {
                all &= (set >> w & 1) == 0 || !sim.wentAt.get(w).isEmpty();
            }
            if (all) {
                least = brought;
                who = some;
            }
        }
        if (least >= 0) {
            kindled = who;
        }
        return least;
    }

    int kindled() {
        return kindled;
    }

    int wider(int n, int hours) {
        int best = -1;
        int most = -1;
        for (int w = 0; w < spec.works.size() && n >= 1 && n <= 99 && hours >= 1 && hours <= 200; w++) {
            for (int g : spec.works.get(w).takes.keySet()) {
                Spec s = spec.copy();
                s.works.get(w).takes.get(g)[1] += n;
                int made = made(s, s.all(), hours);
                if (made > most) {
                    most = made;
                    best = 10 * w + g;
                }
            }
        }
        return best;
    }

    int longer(int n, int hours) {
        int best = -1;
        int most = -1;
        for (int w = 0; w < spec.works.size() && n >= 1 && n <= 11 && hours >= 1 && hours <= 200; w++) {
            Spec s = spec.copy();
            s.works.get(w).till = Math.min(11, s.works.get(w).till + n);
            int made = made(s, s.all(), hours);
            if (made > most) {
                most = made;
                best = w;
            }
        }
        return best;
    }

    int exchanged(int hours) {
        int best = -1;
        int most = -1;
        for (int w = 0; w < spec.works.size() - 1 && hours >= 1 && hours <= 200; w++) {
            Spec s = spec.copy();
            s.works.add(w, s.works.remove(w + 1));
            int made = made(s, s.all(), hours);
            if (made > most) {
                most = made;
                best = w;
            }
        }
        return best;
    }

    int dry(int w, int g, int hours) {
        if (!isWork(w) || hours < 1 || hours > 200 || !spec.works.get(w).feeds.containsKey(g)) {
            return -1;
        }
        Spec s = spec.copy();
        s.works.get(w).feeds.remove(g);
        return made(spec, spec.all(), hours) - made(s, s.all(), hours);
    }

    int rest() {
        int best = -1;
        int most = -1;
        for (int day = 0; day < 7 && !spec.works.isEmpty(); day++) {
            Sim sim = new Sim(spec);
            for (int h = 0; h < 84; h++) {
                boolean rests = h / 12 == day;
                sim.hour(new ArrayList<>(), w -> rests);
            }
            if (sim.made() > most) {
                most = sim.made();
                best = day;
            }
        }
        return best;
    }

    int write() {
        if (run == null) {
            return -1;
        }
        StringBuilder b = new StringBuilder();
        for (int w = 0; w < spec.works.size(); w++) {
            b.append(spec.names.get(w) + " " + went(w, 0) + " " + went(w, 2) + ";");
        }
        text = b.toString();
        return text.length();
    }

    int byteAt(int i) {
        return i >= 0 && i < text.length() ? text.charAt(i) : -1;
    }

    int said(int k) {
        if (sentence == null || run == null) {
            return -1;
        }
        List<Integer> all = new ArrayList<>();
        for (int w = 0; w < spec.works.size(); w++) {
            if (sentence.of(run, w)) {
                all.add(w);
            }
        }
        return k == -1 ? all.size() : k >= 0 && k < all.size() ? all.get(k) : -1;
    }

    boolean image(int k) {
        if (k != 0 && k != 1) {
            return false;
        }
        images.put(k, new Object[] {spec, plan, sentence, run == null ? null : run.copy()});
        return true;
    }

    @SuppressWarnings("unchecked")
    boolean restore(int k) {
        if (!images.containsKey(k)) {
            return false;
        }
        Object[] kept = images.get(k);
        spec = (Spec) kept[0];
        plan = (List<int[]>) kept[1];
        sentence = (Cond) kept[2];
        run = kept[3] == null ? null : ((Sim) kept[3]).copy();
        return true;
    }

    int count(int what) {
        int vats = 0;
        int gives = 0;
        int feeds = 0;
        for (Work w : spec.works) {
            vats += w.takes.size();
            gives += w.gives.size();
            feeds += w.feeds.size();
        }
        int[] all = {spec.goods.size(), spec.works.size(), vats, gives, feeds, spec.joined ? 1 : 0, plan.size(), tape.length()};
        return what >= 0 && what < 8 ? all[what] : -1;
    }
}
