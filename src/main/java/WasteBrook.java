import java.util.Arrays;
import java.util.NoSuchElementException;

/** Works one below the other along a brook, each of which goes by what those above let out. */
public final class WasteBrook {
    public static final int NONE = -1;

    private static final int NOT_AS_TOLD = -2;
    private static final int GOODS = 6;
    private static final int WORKS = 8;
    private static final int CELLS = WORKS * GOODS;
    private static final int SETS = 1 << WORKS;
    private static final int DAY = 12;
    private static final int LAST_HOUR = 11;
    private static final int HOURS = 200;
    private static final int DAYS_SHOWN = 16;
    private static final int KINDLE_HOURS = 48;
    private static final int WEEK = 7;
    private static final int LARGEST = 99;
    private static final int PLACES = 2;

    private static final int NO_TOKEN = 1;
    private static final int WRONG_NUMBER = 2;
    private static final int WRONG_NAME = 3;
    private static final int TOO_MANY = 4;

    /** Far above what two numbers of 63 bits need. */
    private static final int MOST_DIVISIONS = 200;
    private static final int[] FACTORIALS = {1, 1, 2, 6, 24, 120, 720, 5040, 40320};

    private final Tape tape;
    private final Brook brook;
    private final Brook otherBrook;
    private final Plan plan;
    private final Plan readPlan;
    private final Sentence sentence;
    private final Sentence readSentence;
    private final Run run;
    private final Run trial;
    private final Run secondTrial;
    private final Image[] images;
    private final Text text;
    private final int[] madeBySets;
    private final long[] worthAbove;
    private final long[] worthBelow;
    private int worthWorks;
    private int kindledSet;
    private int faultKind;

    public WasteBrook() {
        tape = new Tape();
        brook = new Brook();
        otherBrook = new Brook();
        plan = new Plan();
        readPlan = new Plan();
        sentence = new Sentence();
        readSentence = new Sentence();
        run = new Run();
        trial = new Run();
        secondTrial = new Run();
        images = new Image[PLACES];
        images[0] = new Image();
        images[1] = new Image();
        text = new Text();
        madeBySets = new int[SETS];
        worthAbove = new long[WORKS];
        worthBelow = new long[WORKS];
        worthWorks = 0;
        kindledSet = NONE;
        faultKind = 0;
    }

    // ---- the tape and the BROOK as it is told

    public int feed(int a, int b, int c, int d, int e) {
        if (!tape.hasRoomForFive()) {
            return NONE;
        }
        tape.putNumber(a);
        tape.putNumber(b);
        tape.putNumber(c);
        tape.putNumber(d);
        tape.putNumber(e);
        return tape.length;
    }

    public boolean end(int n) {
        if (n < 0 || n > tape.length) {
            return false;
        }
        tape.length = n;
        return true;
    }

    public int brook() {
        boolean read = otherBrook.readFrom(tape);
        closeTape();
        if (!read) {
            return -1 - tape.faultPlace;
        }
        brook.copyFrom(otherBrook);
        plan.clear();
        sentence.clear();
        run.hours = NONE;
        return brook.lines;
    }

    private void closeTape() {
        faultKind = tape.faultKind;
        tape.length = 0;
    }

    public int fault() {
        return faultKind;
    }

    public int work(int w, int what) throws NoSuchElementException {
        if (!isWork(w) || what < 0 || what > 5) {
            throw new NoSuchElementException("no such work, or nothing such of it");
        }
        switch (what) {
            case 0:
                return brook.from[w];
            case 1:
                return brook.till[w];
            case 2:
                return brook.makes[w];
            case 3:
                return goodsOf(brook.takes, w);
            case 4:
                return goodsOf(brook.gives, w);
            default:
                return goodsOf(brook.feeds, w);
        }
    }

    private static int goodsOf(int[] amounts, int w) {
        int bits = 0;
        for (int g = 0; g < GOODS; g++) {
            if (amounts[w * GOODS + g] > 0) {
                bits |= 1 << g;
            }
        }
        return bits;
    }

    public int at(int w, int g, int what) {
        if (!isWork(w) || !isGood(g)) {
            return NONE;
        }
        int cell = w * GOODS + g;
        switch (what) {
            case 0:
                return brook.takes[cell];
            case 1:
                return brook.size[cell];
            case 2:
                return brook.has[cell];
            case 3:
                return brook.gives[cell];
            case 4:
                return brook.feeds[cell];
            default:
                return NONE;
        }
    }

    public int loss(int g) {
        return isGood(g) ? brook.loss[g] : NONE;
    }

    private boolean isWork(int w) {
        return w >= 0 && w < brook.works;
    }

    private boolean isGood(int g) {
        return g >= 0 && g < brook.goods;
    }

    private boolean isSet(int set) {
        return set >= 0 && set <= brook.allWorks();
    }

    private static boolean areHours(int n) {
        return n >= 1 && n <= HOURS;
    }

    // ---- the RUN

    public boolean begin() {
        if (brook.works == 0) {
            return false;
        }
        run.startAsTold(brook);
        return true;
    }

    public int on(int hours) {
        if (hours < 0 || hours > HOURS || !isRunning()) {
            return NONE;
        }
        int done = Math.min(hours, HOURS - run.hours);
        for (int i = 0; i < done; i++) {
            plan.bringAll(brook, run);
            run.pass(brook, brook.allWorks() & ~plan.stoppedAt(run.hours));
        }
        return done;
    }

    private boolean isRunning() {
        return run.hours != NONE;
    }

    public int hour() {
        return run.hours;
    }

    public int vat(int w, int g) {
        return isVatOfRun(w, g) ? run.vats[w * GOODS + g] : NONE;
    }

    private boolean isVatOfRun(int w, int g) {
        return isRunning() && isWork(w) && isGood(g) && brook.takes[w * GOODS + g] > 0;
    }

    public int went(int w, int what) {
        if (!isRunning() || !isWork(w)) {
            return NONE;
        }
        switch (what) {
            case 0:
                return run.goings[w];
            case 1:
                return run.hours - run.goings[w];
            case 2:
                return run.goings[w] * brook.makes[w];
            case 3:
                return run.found[w];
            case 4:
                return run.latest[w];
            case 5:
                return run.wentLately(w) ? 1 : 0;
            default:
                return NONE;
        }
    }

    public int parts(int g, int what) {
        if (!isRunning() || !isGood(g)) {
            return NONE;
        }
        if (what >= Run.FED && what <= Run.LET_OUT) {
            return run.tally[what * GOODS + g];
        }
        if (what == 6) {
            return run.inVats(g);
        }
        return what == 7 ? run.stream[g] : NONE;
    }

    public int comes(int w, int g) {
        return isVatOfRun(w, g) ? run.vatGivers[w * GOODS + g] : NONE;
    }

    public int lacks(int w, int g) {
        return isVatOfRun(w, g) ? run.lacking[w * GOODS + g] : NONE;
    }

    public int made() {
        return isRunning() ? run.total(brook) : NONE;
    }

    public int plan() {
        boolean read = readPlan.readFrom(tape, brook);
        closeTape();
        if (!read) {
            return -1 - tape.faultPlace;
        }
        plan.copyFrom(readPlan);
        return plan.lines;
    }

    // ---- RUNS without a PLAN

    public int goes(int w, int day) {
        if (!isWork(w) || day < 0 || day >= DAYS_SHOWN) {
            return NONE;
        }
        trial.startAsTold(brook);
        trial.passMany(brook, brook.allWorks(), day * DAY);
        int bits = 0;
        for (int i = 0; i < DAY; i++) {
            trial.pass(brook, brook.allWorks());
            if (trial.wentLately(w)) {
                bits |= 1 << i;
            }
        }
        return bits;
    }

    public int order(int k) {
        trial.startAsTold(brook);
        int seen = 0;
        int rank = 0;
        for (int i = 0; i < HOURS; i++) {
            trial.pass(brook, brook.allWorks());
            for (int w = 0; w < brook.works; w++) {
                if (trial.wentLately(w) && (seen >> w & 1) == 0) {
                    if (rank == k) {
                        return w;
                    }
                    seen |= 1 << w;
                    rank++;
                }
            }
        }
        return NONE;
    }

    public int again(int what) {
        if (what != 0 && what != 1) {
            return NONE;
        }
        int period = periodAtEnd();
        if (period == 0 || what == 1) {
            return period == 0 ? NONE : period;
        }
        return firstHourOfPeriod(period);
    }

    /**
     * Without a PLAN a STATE tells all STATES behind it, so if any comes again by HOUR 199, the one
     * behind HOUR 199 was there before, and the least way back to it is the way of all of them.
     */
    private int periodAtEnd() {
        trial.startAsTold(brook);
        trial.passMany(brook, brook.allWorks(), HOURS);
        secondTrial.startAsTold(brook);
        int period = 0;
        for (int h = 0; h < HOURS - DAY; h++) {
            secondTrial.pass(brook, brook.allWorks());
            int back = HOURS - 1 - h;
            if (back % DAY == 0 && secondTrial.isLike(trial)) {
                period = back;
            }
        }
        return period;
    }

    private int firstHourOfPeriod(int period) {
        trial.startAsTold(brook);
        trial.passMany(brook, brook.allWorks(), period);
        secondTrial.startAsTold(brook);
        for (int m = 0; m + period < HOURS; m++) {
            trial.pass(brook, brook.allWorks());
            secondTrial.pass(brook, brook.allWorks());
            if (trial.isLike(secondTrial)) {
                return m;
            }
        }
        return NONE;
    }

    // ---- MADE, WORTH, KEPT

    public int by(int set, int n) {
        if (!isSet(set) || !areHours(n)) {
            return NONE;
        }
        return madeAlone(brook, set, n);
    }

    /** A DAY that ends as it began comes again till the end, so it is worked out but once. */
    private int madeAlone(Brook told, int set, int hours) {
        int days = hours / DAY;
        int comesAgain = 0;
        trial.startAsTold(told);
        for (int day = 0; day < days; day++) {
            secondTrial.copyFrom(trial);
            trial.passMany(told, set, DAY);
            if (trial.isLike(secondTrial)) {
                comesAgain = (days - 1 - day) * (trial.total(told) - secondTrial.total(told));
                break;
            }
        }
        trial.passMany(told, set, hours % DAY);
        return trial.total(told) + comesAgain;
    }

    public int needed(int w, int n) {
        if (!isWork(w) || !areHours(n)) {
            return NONE;
        }
        int all = brook.allWorks();
        return madeAlone(brook, all, n) - madeAlone(brook, all & ~(1 << w), n);
    }

    public int worth(int n) {
        if (brook.works == 0 || !areHours(n)) {
            return NONE;
        }
        int all = brook.allWorks();
        for (int set = 0; set <= all; set++) {
            madeBySets[set] = madeAlone(brook, set, n);
        }
        worthWorks = brook.works;
        for (int w = 0; w < worthWorks; w++) {
            setWorth(w);
        }
        return madeBySets[all];
    }

    /** A set that w finds there has been come to in as many orders as it and the rest have. */
    private void setWorth(int w) {
        int all = brook.allWorks();
        long sum = 0;
        for (int set = 0; set <= all; set++) {
            if ((set >> w & 1) == 0) {
                int there = Integer.bitCount(set);
                long orders = (long) FACTORIALS[there] * FACTORIALS[worthWorks - 1 - there];
                sum += orders * (madeBySets[set | 1 << w] - madeBySets[set]);
            }
        }
        long below = FACTORIALS[worthWorks];
        long divisor = commonDivisor(Math.abs(sum), below);
        worthAbove[w] = sum / divisor;
        worthBelow[w] = below / divisor;
    }

    /** Of two numbers of which b is above 0, so that the answer is so too. */
    private static long commonDivisor(long a, long b) {
        long larger = a;
        long divisor = b;
        for (int i = 0; i < MOST_DIVISIONS && divisor > 0 && larger % divisor != 0; i++) {
            long rest = larger % divisor;
            larger = divisor;
            divisor = rest;
        }
        return Math.max(divisor, 1);
    }

    public long worthOf(int w, int what) throws NoSuchElementException {
        if (w < 0 || w >= worthWorks || what < 0 || what > 1) {
            throw new NoSuchElementException("no such work in the latest worth, or nothing such of it");
        }
        return what == 0 ? worthAbove[w] : worthBelow[w];
    }

    public int kept(int n) {
        int bytes = tape.length;
        tape.length = 0;
        if (!areHours(n) || bytes != 2 * brook.works) {
            return NOT_AS_TOLD;
        }
        int all = brook.allWorks();
        for (int set = 1; set <= all; set++) {
            if (madeAlone(brook, set, n) > sharesOf(set)) {
                return set;
            }
        }
        return NONE;
    }

    private int sharesOf(int set) {
        int sum = 0;
        for (int w = 0; w < brook.works; w++) {
            if ((set >> w & 1) == 1) {
                sum += tape.bytes[2 * w] * 256 + tape.bytes[2 * w + 1];
            }
        }
        return sum;
    }

    // ---- STEADY sets

    public int steady(int set) {
        if (!isSet(set)) {
            return NONE;
        }
        return trial.isSteady(brook, set) ? 1 : 0;
    }

    public int steadies(int k) {
        if (k < NONE) {
            return NONE;
        }
        int all = brook.allWorks();
        int found = 0;
        for (int set = 0; set <= all; set++) {
            if (trial.isSteady(brook, set)) {
                if (found == k) {
                    return set;
                }
                found++;
            }
        }
        return k == NONE ? found : NONE;
    }

    public int greatest(int set) {
        return isSet(set) ? greatestOf(set) : NONE;
    }

    private int greatestOf(int among) {
        int best = 0;
        for (int set = 1; set <= among; set++) {
            boolean within = (set & ~among) == 0;
            if (within && Integer.bitCount(set) > Integer.bitCount(best) && trial.isSteady(brook, set)) {
                best = set;
            }
        }
        return best;
    }

    public int falls(int w) {
        if (!isWork(w)) {
            return NONE;
        }
        int all = brook.allWorks();
        int greatest = greatestOf(all);
        if ((greatest >> w & 1) == 0) {
            return NONE;
        }
        int rest = greatestOf(all & ~(1 << w));
        return greatest & ~(1 << w) & ~rest;
    }

    public int fed(int set) {
        if (set == 0 || !isSet(set)) {
            return NONE;
        }
        if (trial.isSteady(brook, set)) {
            return 0;
        }
        otherBrook.copyFrom(brook);
        int first = firstOf(set) * GOODS;
        for (int n = 1; n <= LARGEST; n++) {
            for (int g = 0; g < brook.goods; g++) {
                otherBrook.feeds[first + g] = brook.feeds[first + g] + n;
                boolean does = trial.isSteady(otherBrook, set);
                otherBrook.feeds[first + g] = brook.feeds[first + g];
                if (does) {
                    return 10 * n + g;
                }
            }
        }
        return NONE;
    }

    private static int firstOf(int set) {
        for (int w = 0; w < WORKS; w++) {
            if ((set >> w & 1) == 1) {
                return w;
            }
        }
        return 0;
    }

    // ---- KINDLED

    public int kindle(int set, int n) {
        if (!isSet(set) || n < 1 || n > KINDLE_HOURS) {
            return NOT_AS_TOLD;
        }
        int all = brook.allWorks();
        int best = NONE;
        for (int who = 0; who <= all; who++) {
            int brought = trial.startKindled(brook, who);
            if ((best == NONE || brought < best) && trial.allGo(brook, set, n)) {
                best = brought;
                kindledSet = who;
            }
        }
        return best;
    }

    public int kindled() {
        return kindledSet;
    }

    // ---- what is made if something is told otherwise

    public int wider(int n, int hours) {
        if (n < 1 || n > LARGEST || !areHours(hours)) {
            return NONE;
        }
        otherBrook.copyFrom(brook);
        int best = NONE;
        int most = NONE;
        for (int w = 0; w < brook.works; w++) {
            for (int g = 0; g < brook.goods; g++) {
                int cell = w * GOODS + g;
                if (brook.takes[cell] > 0) {
                    otherBrook.size[cell] = brook.size[cell] + n;
                    int total = madeAlone(otherBrook, brook.allWorks(), hours);
                    otherBrook.size[cell] = brook.size[cell];
                    if (total > most) {
                        most = total;
                        best = 10 * w + g;
                    }
                }
            }
        }
        return best;
    }

    public int longer(int n, int hours) {
        if (n < 1 || n > LAST_HOUR || !areHours(hours)) {
            return NONE;
        }
        otherBrook.copyFrom(brook);
        int best = NONE;
        int most = NONE;
        for (int w = 0; w < brook.works; w++) {
            otherBrook.till[w] = Math.min(brook.till[w] + n, LAST_HOUR);
            int total = madeAlone(otherBrook, brook.allWorks(), hours);
            otherBrook.till[w] = brook.till[w];
            if (total > most) {
                most = total;
                best = w;
            }
        }
        return best;
    }

    public int exchanged(int hours) {
        if (!areHours(hours)) {
            return NONE;
        }
        otherBrook.copyFrom(brook);
        int best = NONE;
        int most = NONE;
        for (int w = 0; w + 1 < brook.works; w++) {
            otherBrook.exchangeWithNext(w);
            int total = madeAlone(otherBrook, brook.allWorks(), hours);
            otherBrook.exchangeWithNext(w);
            if (total > most) {
                most = total;
                best = w;
            }
        }
        return best;
    }

    public int dry(int w, int g, int hours) {
        if (!isWork(w) || !isGood(g) || !areHours(hours) || brook.feeds[w * GOODS + g] == 0) {
            return NONE;
        }
        otherBrook.copyFrom(brook);
        otherBrook.feeds[w * GOODS + g] = 0;
        int all = brook.allWorks();
        return madeAlone(brook, all, hours) - madeAlone(otherBrook, all, hours);
    }

    public int rest() {
        int best = NONE;
        int most = NONE;
        for (int day = 0; day < WEEK && brook.works > 0; day++) {
            trial.startAsTold(brook);
            trial.passMany(brook, brook.allWorks(), day * DAY);
            trial.passMany(brook, 0, DAY);
            trial.passMany(brook, brook.allWorks(), (WEEK - 1 - day) * DAY);
            int total = trial.total(brook);
            if (total > most) {
                most = total;
                best = day;
            }
        }
        return best;
    }

    // ---- texts and SENTENCES of the RUN

    public int write() {
        if (!isRunning()) {
            return NONE;
        }
        text.length = 0;
        for (int w = 0; w < brook.works; w++) {
            text.putName(brook.workNames[w]);
            text.putByte(Text.BLANK);
            text.putNumber(run.goings[w]);
            text.putByte(Text.BLANK);
            text.putNumber(run.goings[w] * brook.makes[w]);
            text.putByte(';');
        }
        return text.length;
    }

    public int byteAt(int i) {
        return i >= 0 && i < text.length ? text.bytes[i] : NONE;
    }

    public int sentence() {
        boolean read = readSentence.readFrom(tape, brook);
        closeTape();
        if (!read) {
            return -1 - tape.faultPlace;
        }
        sentence.copyFrom(readSentence);
        return sentence.ones;
    }

    public int said(int k) {
        if (sentence.ones == 0 || !isRunning() || k < NONE) {
            return NONE;
        }
        int found = 0;
        for (int w = 0; w < brook.works; w++) {
            if (sentence.isTrueOf(w, brook, run)) {
                if (found == k) {
                    return w;
                }
                found++;
            }
        }
        return k == NONE ? found : NONE;
    }

    // ---- images

    public boolean image(int k) {
        if (k < 0 || k >= PLACES) {
            return false;
        }
        Image place = images[k];
        place.brook.copyFrom(brook);
        place.plan.copyFrom(plan);
        place.sentence.copyFrom(sentence);
        place.run.copyFrom(run);
        place.used = true;
        return true;
    }

    public boolean restore(int k) {
        if (k < 0 || k >= PLACES || !images[k].used) {
            return false;
        }
        Image place = images[k];
        brook.copyFrom(place.brook);
        plan.copyFrom(place.plan);
        sentence.copyFrom(place.sentence);
        run.copyFrom(place.run);
        return true;
    }

    public int count(int what) {
        switch (what) {
            case 0:
                return brook.goods;
            case 1:
                return brook.works;
            case 2:
                return countTold(brook.takes);
            case 3:
                return countTold(brook.gives);
            case 4:
                return countTold(brook.feeds);
            case 5:
                return brook.joined ? 1 : 0;
            case 6:
                return plan.lines;
            case 7:
                return tape.length;
            default:
                return NONE;
        }
    }

    private static int countTold(int[] amounts) {
        int told = 0;
        for (int cell = 0; cell < CELLS; cell++) {
            if (amounts[cell] > 0) {
                told++;
            }
        }
        return told;
    }

    /** The WORDS that are no NAMES, by their places in ALL. */
    private static final class Keyword {
        static final int GOOD = 0;
        static final int WORK = 1;
        static final int TAKES = 2;
        static final int GIVES = 3;
        static final int MAKES = 4;
        static final int FEEDS = 5;
        static final int JOINED = 6;
        static final int STOPS = 7;
        static final int BRINGS = 8;
        static final int OR = 9;
        static final int AND = 10;
        static final int NOT = 11;
        static final int WANTS = 12;
        static final int LETS = 13;
        static final int FINDS = 14;
        static final int WENT = 15;
        static final int STOOD = 16;
        static final int MADE = 17;
        static final int PLACE = 18;
        static final int MANY = 19;
        static final int WIDTH = 6;
        /** Each six signs wide, so that a place tells where its WORD begins. */
        static final String ALL =
            "good  work  takes gives makes feeds joinedstops bringsor    and   not   wants lets  finds went  stood made  place ";
    }

    /** The bytes that were fed, and the TOKENS of the text that they are. */
    private static final class Tape {
        static final int MOST = 940;
        static final int FIVE_NUMBERS = 20;
        static final int NUMBER_DIGITS = 3;
        static final int LETTER_BITS = 5;
        static final int BEFORE_A = 96;

        static final int END = 0;
        static final int BAD = 1;
        static final int WORD = 2;
        static final int NUMBER = 3;
        static final int SIGN = 4;

        final int[] bytes;
        final int[] keywords;
        int length;
        int most;
        int next;
        int kind;
        int start;
        int value;
        int keyword;
        int number;
        int faultKind;
        int faultPlace;

        Tape() {
            bytes = new int[MOST];
            keywords = new int[Keyword.MANY];
            for (int i = 0; i < Keyword.MANY; i++) {
                int letters = 0;
                for (int j = 0; j < Keyword.WIDTH; j++) {
                    char c = Keyword.ALL.charAt(i * Keyword.WIDTH + j);
                    if (c != ' ') {
                        letters = letters << LETTER_BITS | c - BEFORE_A;
                    }
                }
                keywords[i] = letters;
            }
        }

        boolean hasRoomForFive() {
            return length + FIVE_NUMBERS <= MOST;
        }

        void putNumber(int n) {
            for (int shift = 24; shift >= 0 && length < MOST; shift -= 8) {
                bytes[length] = n >> shift & 255;
                length++;
            }
        }

        /** The tape is read from its beginning as a text of so many bytes at most. */
        void openText(int mostBytes) {
            most = mostBytes;
            next = 0;
            number = 0;
            faultKind = 0;
            faultPlace = 0;
            advance();
        }

        void advance() {
            int i = next;
            while (i < length && (bytes[i] == ' ' || bytes[i] == '\n')) {
                i++;
            }
            value = 0;
            keyword = NONE;
            if (i >= most && length > most) {
                kind = BAD;
                start = most;
                next = i;
                return;
            }
            start = i;
            if (i >= length) {
                kind = END;
                next = length;
            } else {
                readToken();
            }
        }

        /** Reads on as long as small letters and digits do; where there are none, one sign. */
        private void readToken() {
            int letters = 0;
            int digits = 0;
            int word = 0;
            int amount = 0;
            int i = start;
            while (i < length && (bytes[i] >= 'a' && bytes[i] <= 'z' || bytes[i] >= '0' && bytes[i] <= '9')) {
                if (bytes[i] >= 'a') {
                    word = word << LETTER_BITS | bytes[i] - BEFORE_A;
                    letters++;
                } else {
                    amount = amount * 10 + bytes[i] - '0';
                    digits++;
                }
                i++;
            }
            kind = BAD;
            next = i;
            if (letters + digits == 0) {
                kind = SIGN;
                value = bytes[start];
                next = start + 1;
            } else if (digits == 0 && letters <= Keyword.WIDTH) {
                kind = WORD;
                value = word;
            } else if (letters == 0 && digits <= NUMBER_DIGITS) {
                kind = NUMBER;
                value = amount;
            }
            for (int k = 0; k < Keyword.MANY && kind == WORD; k++) {
                if (keywords[k] == word) {
                    keyword = k;
                }
            }
        }

        boolean fail(int faultOf) {
            faultKind = faultOf;
            faultPlace = start;
            return false;
        }

        boolean isName() {
            return kind == WORD && keyword == NONE;
        }

        boolean isThisSign(char sign) {
            return kind == SIGN && value == sign;
        }

        boolean isComparing() {
            return kind == SIGN && (value == '<' || value == '=' || value == '>');
        }

        boolean takeSign(char sign) {
            if (!isThisSign(sign)) {
                return fail(NO_TOKEN);
            }
            advance();
            return true;
        }

        /** What was read is in number then. */
        boolean takeNumber(int least, int largest) {
            if (kind != NUMBER) {
                return fail(NO_TOKEN);
            }
            if (value < least || value > largest) {
                return fail(WRONG_NUMBER);
            }
            number = value;
            advance();
            return true;
        }
    }

    /** What is told of GOODS and WORKS; cell w * GOODS + g is of WORK w and GOOD g. */
    private static final class Brook {
        static final int MOST_BYTES = 900;
        static final int LARGEST_AMOUNT = 9;

        int goods;
        int works;
        int lines;
        boolean joined;
        final int[] goodNames;
        final int[] workNames;
        final int[] loss;
        final int[] from;
        final int[] till;
        final int[] makes;
        final int[] takes;
        final int[] size;
        final int[] has;
        final int[] gives;
        final int[] feeds;

        Brook() {
            goodNames = new int[GOODS];
            workNames = new int[WORKS];
            loss = new int[GOODS];
            from = new int[WORKS];
            till = new int[WORKS];
            makes = new int[WORKS];
            takes = new int[CELLS];
            size = new int[CELLS];
            has = new int[CELLS];
            gives = new int[CELLS];
            feeds = new int[CELLS];
        }

        int allWorks() {
            return (1 << works) - 1;
        }

        void copyFrom(Brook other) {
            goods = other.goods;
            works = other.works;
            lines = other.lines;
            joined = other.joined;
            System.arraycopy(other.goodNames, 0, goodNames, 0, GOODS);
            System.arraycopy(other.workNames, 0, workNames, 0, WORKS);
            System.arraycopy(other.loss, 0, loss, 0, GOODS);
            System.arraycopy(other.from, 0, from, 0, WORKS);
            System.arraycopy(other.till, 0, till, 0, WORKS);
            System.arraycopy(other.makes, 0, makes, 0, WORKS);
            System.arraycopy(other.takes, 0, takes, 0, CELLS);
            System.arraycopy(other.size, 0, size, 0, CELLS);
            System.arraycopy(other.has, 0, has, 0, CELLS);
            System.arraycopy(other.gives, 0, gives, 0, CELLS);
            System.arraycopy(other.feeds, 0, feeds, 0, CELLS);
        }

        private void clear() {
            goods = 0;
            works = 0;
            lines = 0;
            joined = false;
            Arrays.fill(makes, 0);
            Arrays.fill(takes, 0);
            Arrays.fill(size, 0);
            Arrays.fill(has, 0);
            Arrays.fill(gives, 0);
            Arrays.fill(feeds, 0);
        }

        /** WORK w (not the last) and the one below it, each with all that is told of it. */
        void exchangeWithNext(int w) {
            exchange(from, w, w + 1);
            exchange(till, w, w + 1);
            exchange(makes, w, w + 1);
            for (int g = 0; g < goods; g++) {
                int upper = w * GOODS + g;
                int lower = upper + GOODS;
                exchange(takes, upper, lower);
                exchange(size, upper, lower);
                exchange(has, upper, lower);
                exchange(gives, upper, lower);
                exchange(feeds, upper, lower);
            }
        }

        private static void exchange(int[] row, int i, int j) {
            int kept = row[i];
            row[i] = row[j];
            row[j] = kept;
        }

        boolean readFrom(Tape tape) {
            clear();
            tape.openText(MOST_BYTES);
            while (tape.kind != Tape.END && lines < MOST_BYTES) {
                if (!readLine(tape) || !tape.takeSign(';')) {
                    return false;
                }
                lines++;
            }
            return true;
        }

        private boolean readLine(Tape tape) {
            switch (tape.keyword) {
                case Keyword.GOOD:
                    return readGood(tape);
                case Keyword.WORK:
                    return readWork(tape);
                case Keyword.TAKES:
                    return readTakes(tape);
                case Keyword.GIVES:
                    return readAmount(tape, gives);
                case Keyword.FEEDS:
                    return readAmount(tape, feeds);
                case Keyword.MAKES:
                    return readMakes(tape);
                case Keyword.JOINED:
                    return readJoined(tape);
                default:
                    return tape.fail(NO_TOKEN);
            }
        }

        private boolean readGood(Tape tape) {
            if (goods == GOODS) {
                return tape.fail(TOO_MANY);
            }
            tape.advance();
            if (!isNewName(tape)) {
                return false;
            }
            goodNames[goods] = tape.value;
            tape.advance();
            if (!tape.takeNumber(0, 9)) {
                return false;
            }
            loss[goods] = tape.number;
            goods++;
            return true;
        }

        private boolean readWork(Tape tape) {
            if (works == WORKS) {
                return tape.fail(TOO_MANY);
            }
            tape.advance();
            if (!isNewName(tape)) {
                return false;
            }
            workNames[works] = tape.value;
            from[works] = 0;
            till[works] = LAST_HOUR;
            tape.advance();
            if (tape.kind == Tape.NUMBER) {
                if (!tape.takeNumber(0, LAST_HOUR)) {
                    return false;
                }
                from[works] = tape.number;
                if (!tape.takeNumber(from[works], LAST_HOUR)) {
                    return false;
                }
                till[works] = tape.number;
            }
            works++;
            return true;
        }

        private boolean isNewName(Tape tape) {
            if (!tape.isName()) {
                return tape.fail(NO_TOKEN);
            }
            if (goodNamed(tape.value) != NONE || workNamed(tape.value) != NONE) {
                return tape.fail(WRONG_NAME);
            }
            return true;
        }

        private boolean readTakes(Tape tape) {
            int cell = takeCell(tape);
            if (cell == NONE || !readNew(tape, takes, cell)) {
                return false;
            }
            if (!tape.takeNumber(takes[cell], LARGEST)) {
                return false;
            }
            size[cell] = tape.number;
            if (!tape.takeNumber(0, size[cell])) {
                return false;
            }
            has[cell] = tape.number;
            return true;
        }

        private boolean readAmount(Tape tape, int[] amounts) {
            int cell = takeCell(tape);
            return cell != NONE && readNew(tape, amounts, cell);
        }

        /** At a GOOD of which these amounts may tell nothing yet. */
        private boolean readNew(Tape tape, int[] amounts, int cell) {
            if (amounts[cell] > 0) {
                return tape.fail(WRONG_NAME);
            }
            tape.advance();
            if (!tape.takeNumber(1, LARGEST_AMOUNT)) {
                return false;
            }
            amounts[cell] = tape.number;
            return true;
        }

        private boolean readMakes(Tape tape) {
            tape.advance();
            int w = findWork(tape);
            if (w == NONE) {
                return false;
            }
            if (makes[w] > 0) {
                return tape.fail(WRONG_NAME);
            }
            tape.advance();
            if (!tape.takeNumber(1, LARGEST)) {
                return false;
            }
            makes[w] = tape.number;
            return true;
        }

        private boolean readJoined(Tape tape) {
            if (joined) {
                return tape.fail(WRONG_NAME);
            }
            joined = true;
            tape.advance();
            return true;
        }

        /** Behind a LINE's first WORD a WORK, taken, and a GOOD, found only: a FAULT may be told at it. */
        int takeCell(Tape tape) {
            tape.advance();
            int w = findWork(tape);
            if (w == NONE) {
                return NONE;
            }
            tape.advance();
            int g = findGood(tape);
            return g == NONE ? NONE : w * GOODS + g;
        }

        int findWork(Tape tape) {
            if (!tape.isName()) {
                tape.fail(NO_TOKEN);
                return NONE;
            }
            int w = workNamed(tape.value);
            if (w == NONE) {
                tape.fail(WRONG_NAME);
            }
            return w;
        }

        int findGood(Tape tape) {
            if (!tape.isName()) {
                tape.fail(NO_TOKEN);
                return NONE;
            }
            int g = goodNamed(tape.value);
            if (g == NONE) {
                tape.fail(WRONG_NAME);
            }
            return g;
        }

        private int workNamed(int name) {
            for (int w = 0; w < works; w++) {
                if (workNames[w] == name) {
                    return w;
                }
            }
            return NONE;
        }

        private int goodNamed(int name) {
            for (int g = 0; g < goods; g++) {
                if (goodNames[g] == name) {
                    return g;
                }
            }
            return NONE;
        }
    }

    /** LINES by which WORKS are stopped, or something is brought to a vat. */
    private static final class Plan {
        static final int MOST_BYTES = 300;
        static final int MOST_LINES = 20;

        int lines;
        final int[] keywords;
        final int[] works;
        final int[] cells;
        final int[] amounts;
        final int[] firstHours;
        final int[] lastHours;

        Plan() {
            keywords = new int[MOST_LINES];
            works = new int[MOST_LINES];
            cells = new int[MOST_LINES];
            amounts = new int[MOST_LINES];
            firstHours = new int[MOST_LINES];
            lastHours = new int[MOST_LINES];
        }

        void clear() {
            lines = 0;
        }

        void copyFrom(Plan other) {
            lines = other.lines;
            System.arraycopy(other.keywords, 0, keywords, 0, MOST_LINES);
            System.arraycopy(other.works, 0, works, 0, MOST_LINES);
            System.arraycopy(other.cells, 0, cells, 0, MOST_LINES);
            System.arraycopy(other.amounts, 0, amounts, 0, MOST_LINES);
            System.arraycopy(other.firstHours, 0, firstHours, 0, MOST_LINES);
            System.arraycopy(other.lastHours, 0, lastHours, 0, MOST_LINES);
        }

        boolean readFrom(Tape tape, Brook brook) {
            clear();
            tape.openText(MOST_BYTES);
            while (tape.kind != Tape.END && lines <= MOST_LINES) {
                if (!readLine(tape, brook) || !tape.takeSign(';')) {
                    return false;
                }
                lines++;
            }
            return true;
        }

        private boolean readLine(Tape tape, Brook brook) {
            if (tape.keyword != Keyword.STOPS && tape.keyword != Keyword.BRINGS) {
                return tape.fail(NO_TOKEN);
            }
            if (lines >= MOST_LINES) {
                return tape.fail(TOO_MANY);
            }
            keywords[lines] = tape.keyword;
            return keywords[lines] == Keyword.STOPS ? readStop(tape, brook) : readBring(tape, brook);
        }

        private boolean readStop(Tape tape, Brook brook) {
            tape.advance();
            works[lines] = brook.findWork(tape);
            if (works[lines] == NONE) {
                return false;
            }
            tape.advance();
            if (!tape.takeNumber(0, HOURS - 1)) {
                return false;
            }
            firstHours[lines] = tape.number;
            if (!tape.takeNumber(firstHours[lines], HOURS - 1)) {
                return false;
            }
            lastHours[lines] = tape.number;
            return true;
        }

        private boolean readBring(Tape tape, Brook brook) {
            int cell = brook.takeCell(tape);
            if (cell == NONE) {
                return false;
            }
            if (brook.takes[cell] == 0) {
                return tape.fail(WRONG_NAME);
            }
            cells[lines] = cell;
            tape.advance();
            if (!tape.takeNumber(1, LARGEST)) {
                return false;
            }
            amounts[lines] = tape.number;
            if (!tape.takeNumber(0, HOURS - 1)) {
                return false;
            }
            firstHours[lines] = tape.number;
            return true;
        }

        int stoppedAt(int hour) {
            int stopped = 0;
            for (int i = 0; i < lines; i++) {
                boolean then = firstHours[i] <= hour && hour <= lastHours[i];
                if (keywords[i] == Keyword.STOPS && then) {
                    stopped |= 1 << works[i];
                }
            }
            return stopped;
        }

        void bringAll(Brook brook, Run run) {
            for (int i = 0; i < lines; i++) {
                if (keywords[i] == Keyword.BRINGS && firstHours[i] == run.hours) {
                    run.bring(brook, cells[i], amounts[i]);
                }
            }
        }
    }

    /** What is where behind so many HOURS of a RUN, and what has been so far. */
    private static final class Run {
        static final int FED = 0;
        static final int BROUGHT = 1;
        static final int GIVEN = 2;
        static final int USED = 3;
        static final int LOST = 4;
        static final int LET_OUT = 5;
        static final int TALLIES = 6;

        /** NONE: there is no RUN. */
        int hours;
        final int[] vats;
        final int[] vatMarks;
        final int[] vatGivers;
        final int[] lacking;
        /** Between two HOURS: what is on its way to the top, ahead of its LOSS. */
        final int[] stream;
        final int[] streamMarks;
        final int[] streamGivers;
        final int[] goings;
        final int[] latest;
        final int[] found;
        final int[] tally;

        Run() {
            hours = NONE;
            vats = new int[CELLS];
            vatMarks = new int[CELLS];
            vatGivers = new int[CELLS];
            lacking = new int[CELLS];
            stream = new int[GOODS];
            streamMarks = new int[GOODS];
            streamGivers = new int[GOODS];
            goings = new int[WORKS];
            latest = new int[WORKS];
            found = new int[WORKS];
            tally = new int[TALLIES * GOODS];
        }

        void copyFrom(Run other) {
            hours = other.hours;
            System.arraycopy(other.vats, 0, vats, 0, CELLS);
            System.arraycopy(other.vatMarks, 0, vatMarks, 0, CELLS);
            System.arraycopy(other.vatGivers, 0, vatGivers, 0, CELLS);
            System.arraycopy(other.lacking, 0, lacking, 0, CELLS);
            System.arraycopy(other.stream, 0, stream, 0, GOODS);
            System.arraycopy(other.streamMarks, 0, streamMarks, 0, GOODS);
            System.arraycopy(other.streamGivers, 0, streamGivers, 0, GOODS);
            System.arraycopy(other.goings, 0, goings, 0, WORKS);
            System.arraycopy(other.latest, 0, latest, 0, WORKS);
            System.arraycopy(other.found, 0, found, 0, WORKS);
            System.arraycopy(other.tally, 0, tally, 0, TALLIES * GOODS);
        }

        private void startEmpty() {
            hours = 0;
            Arrays.fill(vats, 0);
            Arrays.fill(vatMarks, 0);
            Arrays.fill(vatGivers, 0);
            Arrays.fill(lacking, 0);
            Arrays.fill(stream, 0);
            Arrays.fill(streamMarks, 0);
            Arrays.fill(streamGivers, 0);
            Arrays.fill(goings, 0);
            Arrays.fill(latest, NONE);
            Arrays.fill(found, 0);
            Arrays.fill(tally, 0);
        }

        void startAsTold(Brook brook) {
            startEmpty();
            System.arraycopy(brook.has, 0, vats, 0, CELLS);
        }

        /** Each WORK of who has N of all that it takes: how much that is together. */
        int startKindled(Brook brook, int who) {
            startEmpty();
            int brought = 0;
            for (int w = 0; w < brook.works; w++) {
                for (int g = 0; g < brook.goods && (who >> w & 1) == 1; g++) {
                    vats[w * GOODS + g] = brook.takes[w * GOODS + g];
                    brought += brook.takes[w * GOODS + g];
                }
            }
            return brought;
        }

        void bring(Brook brook, int cell, int amount) {
            int g = cell % GOODS;
            int taken = Math.min(amount, brook.size[cell] - vats[cell]);
            vats[cell] += taken;
            tally[BROUGHT * GOODS + g] += amount;
            tally[LOST * GOODS + g] += amount - taken;
        }

        void passMany(Brook brook, int free, int many) {
            for (int i = 0; i < many; i++) {
                pass(brook, free);
            }
        }

        /** One HOUR; free are the WORKS, as bits, that nothing but their hours and vats holds. */
        void pass(Brook brook, int free) {
            int hourOfDay = hours % DAY;
            if (brook.joined) {
                loseOnWay(brook);
            }
            for (int w = 0; w < brook.works; w++) {
                comeToWork(brook, w);
                boolean inHours = brook.from[w] <= hourOfDay && hourOfDay <= brook.till[w];
                if (inHours && (free >> w & 1) == 1 && hasAll(brook, w)) {
                    goOnce(brook, w);
                }
                if (w < brook.works - 1) {
                    loseOnWay(brook);
                }
            }
            if (!brook.joined) {
                letOut(brook);
            }
            hours++;
        }

        private void loseOnWay(Brook brook) {
            for (int g = 0; g < brook.goods; g++) {
                int lost = Math.min(stream[g], brook.loss[g]);
                tally[LOST * GOODS + g] += lost;
                lessen(g, lost);
            }
        }

        /** What is empty has no marks any more. */
        private void lessen(int g, int amount) {
            stream[g] -= amount;
            if (stream[g] == 0) {
                streamMarks[g] = 0;
                streamGivers[g] = 0;
            }
        }

        private void comeToWork(Brook brook, int w) {
            for (int g = 0; g < brook.goods; g++) {
                int cell = w * GOODS + g;
                stream[g] += brook.feeds[cell];
                tally[FED * GOODS + g] += brook.feeds[cell];
                int taken = Math.min(stream[g], brook.size[cell] - vats[cell]);
                if (taken > 0) {
                    vats[cell] += taken;
                    vatMarks[cell] |= streamMarks[g];
                    vatGivers[cell] |= streamGivers[g];
                    lessen(g, taken);
                }
            }
        }

        private boolean hasAll(Brook brook, int w) {
            boolean all = true;
            for (int g = 0; g < brook.goods; g++) {
                int cell = w * GOODS + g;
                if (vats[cell] < brook.takes[cell]) {
                    lacking[cell]++;
                    all = false;
                }
            }
            return all;
        }

        private void goOnce(Brook brook, int w) {
            int marks = 0;
            for (int g = 0; g < brook.goods; g++) {
                int cell = w * GOODS + g;
                marks |= vatMarks[cell];
                vats[cell] -= brook.takes[cell];
                tally[USED * GOODS + g] += brook.takes[cell];
                if (vats[cell] == 0) {
                    vatMarks[cell] = 0;
                }
            }
            found[w] |= marks;
            for (int g = 0; g < brook.goods; g++) {
                int given = brook.gives[w * GOODS + g];
                if (given > 0) {
                    stream[g] += given;
                    streamMarks[g] |= marks | 1 << w;
                    streamGivers[g] |= 1 << w;
                    tally[GIVEN * GOODS + g] += given;
                }
            }
            goings[w]++;
            latest[w] = hours;
        }

        private void letOut(Brook brook) {
            for (int g = 0; g < brook.goods; g++) {
                tally[LET_OUT * GOODS + g] += stream[g];
                lessen(g, stream[g]);
            }
        }

        boolean wentLately(int w) {
            return goings[w] > 0 && latest[w] == hours - 1;
        }

        int inVats(int g) {
            int sum = 0;
            for (int w = 0; w < WORKS; w++) {
                sum += vats[w * GOODS + g];
            }
            return sum;
        }

        int total(Brook brook) {
            int sum = 0;
            for (int w = 0; w < brook.works; w++) {
                sum += goings[w] * brook.makes[w];
            }
            return sum;
        }

        /** Whether each WORK of the set goes in so many HOURS from here on. */
        boolean allGo(Brook brook, int set, int many) {
            int gone = 0;
            for (int i = 0; i < many && (set & ~gone) != 0; i++) {
                pass(brook, brook.allWorks());
                for (int w = 0; w < brook.works; w++) {
                    if (wentLately(w)) {
                        gone |= 1 << w;
                    }
                }
            }
            return (set & ~gone) == 0;
        }

        /** The same vats and the same on its way to the top. */
        boolean isLike(Run other) {
            for (int cell = 0; cell < CELLS; cell++) {
                if (vats[cell] != other.vats[cell]) {
                    return false;
                }
            }
            for (int g = 0; g < GOODS; g++) {
                if (stream[g] != other.stream[g]) {
                    return false;
                }
            }
            return true;
        }

        /** Whether each WORK of the set has what it takes, if each of them goes in each HOUR. */
        boolean isSteady(Brook brook, int set) {
            Arrays.fill(stream, 0);
            for (int w = 0; w < brook.works; w++) {
                boolean going = (set >> w & 1) == 1;
                for (int g = 0; g < brook.goods; g++) {
                    int cell = w * GOODS + g;
                    stream[g] += brook.feeds[cell];
                    if (going) {
                        if (stream[g] < brook.takes[cell]) {
                            return false;
                        }
                        stream[g] += brook.gives[cell] - brook.takes[cell];
                    }
                    stream[g] = Math.max(stream[g] - brook.loss[g], 0);
                }
            }
            return true;
        }
    }

    /** What may be said of a WORK, with each 'not', 'and', 'or' behind what it is said of. */
    private static final class Sentence {
        static final int MOST_BYTES = 200;
        static final int MOST_ONES = 20;
        static final int DEEPEST = 8;
        static final int MOST_STEPS = 2 * MOST_ONES;

        /** 0: there is no SENTENCE. */
        int ones;
        int steps;
        final int[] keywords;
        final int[] values;
        final int[] signs;

        Sentence() {
            keywords = new int[MOST_STEPS];
            values = new int[MOST_STEPS];
            signs = new int[MOST_STEPS];
        }

        void clear() {
            ones = 0;
            steps = 0;
        }

        void copyFrom(Sentence other) {
            ones = other.ones;
            steps = other.steps;
            System.arraycopy(other.keywords, 0, keywords, 0, MOST_STEPS);
            System.arraycopy(other.values, 0, values, 0, MOST_STEPS);
            System.arraycopy(other.signs, 0, signs, 0, MOST_STEPS);
        }

        boolean readFrom(Tape tape, Brook brook) {
            clear();
            tape.openText(MOST_BYTES);
            if (!readCondition(tape, brook, 1)) {
                return false;
            }
            return tape.kind == Tape.END || tape.fail(NO_TOKEN);
        }

        private boolean readCondition(Tape tape, Brook brook, int depth) {
            if (!readAll(tape, brook, depth)) {
                return false;
            }
            for (int i = 0; i < MOST_ONES && tape.keyword == Keyword.OR; i++) {
                tape.advance();
                if (!readAll(tape, brook, depth)) {
                    return false;
                }
                addStep(Keyword.OR, 0, 0);
            }
            return true;
        }

        private boolean readAll(Tape tape, Brook brook, int depth) {
            if (!readOne(tape, brook, depth)) {
                return false;
            }
            for (int i = 0; i < MOST_ONES && tape.keyword == Keyword.AND; i++) {
                tape.advance();
                if (!readOne(tape, brook, depth)) {
                    return false;
                }
                addStep(Keyword.AND, 0, 0);
            }
            return true;
        }

        private boolean readOne(Tape tape, Brook brook, int depth) {
            boolean bracket = tape.isThisSign('(');
            int keyword = tape.keyword;
            if (!bracket && keyword < Keyword.NOT) {
                return tape.fail(NO_TOKEN);
            }
            if (ones >= MOST_ONES || depth > DEEPEST) {
                return tape.fail(TOO_MANY);
            }
            ones++;
            tape.advance();
            if (bracket) {
                return readCondition(tape, brook, depth + 1) && tape.takeSign(')');
            }
            if (keyword == Keyword.NOT) {
                return readOne(tape, brook, depth + 1) && addStep(keyword, 0, 0);
            }
            if (keyword >= Keyword.WENT) {
                return readComparison(tape, keyword);
            }
            return readNamed(tape, brook, keyword);
        }

        private boolean readNamed(Tape tape, Brook brook, int keyword) {
            int named = keyword == Keyword.FINDS ? brook.findWork(tape) : brook.findGood(tape);
            if (named == NONE) {
                return false;
            }
            tape.advance();
            return addStep(keyword, named, 0);
        }

        private boolean readComparison(Tape tape, int keyword) {
            if (!tape.isComparing()) {
                return tape.fail(NO_TOKEN);
            }
            int sign = tape.value;
            tape.advance();
            if (tape.kind != Tape.NUMBER) {
                return tape.fail(NO_TOKEN);
            }
            int number = tape.value;
            tape.advance();
            return addStep(keyword, number, sign);
        }

        private boolean addStep(int keyword, int value, int sign) {
            if (steps < MOST_STEPS) {
                keywords[steps] = keyword;
                values[steps] = value;
                signs[steps] = sign;
                steps++;
            }
            return true;
        }

        /** What has been found true so far is held in bits, the latest lowest: twenty at most. */
        boolean isTrueOf(int w, Brook brook, Run run) {
            int truths = 0;
            for (int i = 0; i < steps; i++) {
                int last = truths & 1;
                switch (keywords[i]) {
                    case Keyword.NOT:
                        truths ^= 1;
                        break;
                    case Keyword.AND:
                        truths = truths >> 1 & (last | ~1);
                        break;
                    case Keyword.OR:
                        truths = truths >> 1 | last;
                        break;
                    default:
                        truths = truths << 1 | (isStepTrueOf(i, w, brook, run) ? 1 : 0);
                        break;
                }
            }
            return (truths & 1) == 1;
        }

        private boolean isStepTrueOf(int i, int w, Brook brook, Run run) {
            switch (keywords[i]) {
                case Keyword.WANTS:
                    return brook.takes[w * GOODS + values[i]] > 0;
                case Keyword.LETS:
                    return brook.gives[w * GOODS + values[i]] > 0;
                case Keyword.FINDS:
                    return (run.found[w] >> values[i] & 1) == 1;
                case Keyword.WENT:
                    return compares(run.goings[w], i);
                case Keyword.STOOD:
                    return compares(run.hours - run.goings[w], i);
                case Keyword.MADE:
                    return compares(run.goings[w] * brook.makes[w], i);
                default:
                    return compares(w, i);
            }
        }

        private boolean compares(int amount, int i) {
            if (signs[i] == '<') {
                return amount < values[i];
            }
            return signs[i] == '=' ? amount == values[i] : amount > values[i];
        }
    }

    /** A text that is made. */
    private static final class Text {
        /** Of each WORK a NAME of 6, HOURS of 3, what it made of 5 bytes, two blanks and a sign. */
        static final int MOST = WORKS * 17;
        static final int LARGEST_POWER = 10000;
        static final char BLANK = ' ';

        final int[] bytes;
        int length;

        Text() {
            bytes = new int[MOST];
        }

        void putByte(int b) {
            if (length < MOST) {
                bytes[length] = b;
                length++;
            }
        }

        void putName(int name) {
            for (int shift = Tape.LETTER_BITS * (Keyword.WIDTH - 1); shift >= 0; shift -= Tape.LETTER_BITS) {
                int letter = name >> shift & (1 << Tape.LETTER_BITS) - 1;
                if (letter > 0) {
                    putByte(letter + Tape.BEFORE_A);
                }
            }
        }

        void putNumber(int n) {
            for (int power = LARGEST_POWER; power >= 1; power /= 10) {
                if (n >= power || power == 1) {
                    putByte('0' + n / power % 10);
                }
            }
        }
    }

    /** A place in which BROOK, PLAN, SENTENCE and RUN are kept. */
    private static final class Image {
        boolean used;
        final Brook brook;
        final Plan plan;
        final Sentence sentence;
        final Run run;

        Image() {
            brook = new Brook();
            plan = new Plan();
            sentence = new Sentence();
            run = new Run();
        }
    }
}
