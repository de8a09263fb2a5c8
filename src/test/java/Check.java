import java.util.NoSuchElementException;

/** What the tests share: a count of wrong answers, and texts put on the tape. */
final class Check {
    private int wrong;
    private int asked;

    /** A call that may throw. */
    interface Call {
        long answer();
    }

    void eq(String what, long got, long want) {
        asked++;
        if (got != want) {
            wrong++;
            if (wrong <= 40) {
                System.out.println(what + ": answered " + got + ", due is " + want);
            }
        }
    }

    void same(String what, String got, String want) {
        asked++;
        if (!got.equals(want)) {
            wrong++;
            System.out.println(what + ": answered\n" + got + "\ndue is\n" + want);
        }
    }

    void yes(String what, boolean got) {
        eq(what, got ? 1 : 0, 1);
    }

    void no(String what, boolean got) {
        eq(what, got ? 1 : 0, 0);
    }

    void throwsNoSuch(String what, Call call) {
        asked++;
        try {
            long got = call.answer();
            wrong++;
            System.out.println(what + ": answered " + got + ", due is NoSuchElementException");
        } catch (NoSuchElementException e) {
            // as it is due
        }
    }

    int wrong() {
        return wrong;
    }

    /** Ends the test with exit code 1 if an answer was wrong. */
    void close(String name) {
        System.out.println(name + ": " + asked + " answers, " + wrong + " wrong");
        if (wrong != 0) {
            System.exit(1);
        }
    }

    /** The tape has these signs (0 to 255) behind what it had. */
    static void put(WasteBrook x, String text) {
        int had = x.count(7);
        for (int i = 0; i < text.length(); i += 20) {
            int[] n = new int[5];
            for (int j = 0; j < 20; j++) {
                n[j / 4] = n[j / 4] << 8 | (i + j < text.length() ? text.charAt(i + j) : 0);
            }
            x.feed(n[0], n[1], n[2], n[3], n[4]);
        }
        x.end(had + text.length());
    }

    static int brook(WasteBrook x, String text) {
        put(x, text);
        return x.brook();
    }

    static int plan(WasteBrook x, String text) {
        put(x, text);
        return x.plan();
    }

    static int sentence(WasteBrook x, String text) {
        put(x, text);
        return x.sentence();
    }

    static WasteBrook of(String text) {
        WasteBrook x = new WasteBrook();
        if (brook(x, text) < 0) {
            throw new IllegalArgumentException("a FAULT of kind " + x.fault() + " in " + text);
        }
        return x;
    }

    static WasteBrook run(String text, int hours) {
        WasteBrook x = of(text);
        x.begin();
        x.on(hours);
        return x;
    }
}
