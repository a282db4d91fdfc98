/** Compares answers with what is due and ends the program with 1 if one was wrong. */
final class Due {
    private static final long LONGEST_TEST_MILLIS = 120_000;

    private int wrong;
    private int asked;
    private volatile String sentence = "";

    Due() {
        Thread watch = new Thread(this::failIfLate);
        watch.setDaemon(true);
        watch.start();
    }

    /** A call that never ends must fail its test, not hold up all that come behind it. */
    private void failIfLate() {
        try {
            Thread.sleep(LONGEST_TEST_MILLIS);
        } catch (InterruptedException stopped) {
            return;
        }
        System.out.println(sentence + "a call has not ended");
        Runtime.getRuntime().halt(1);
    }

    /** What is asked from now on tells of these words of the document. */
    void sentence(String words) {
        sentence = "\"" + words + "\": ";
    }

    void is(String call, long got, long want) {
        asked++;
        if (got != want) {
            wrong++;
            System.out.println(sentence + call + " answered " + got + ", due is " + want);
        }
    }

    void isTrue(String what, boolean holds) {
        is(what, holds ? 1 : 0, 1);
    }

    void same(String what, String got, String want) {
        asked++;
        if (!got.equals(want)) {
            wrong++;
            System.out.println(sentence + what + " is\n" + got + "\ndue is\n" + want);
        }
    }

    /** The eight fields of event i. */
    void event(LifecycleEngine x, int i, int... want) {
        for (int what = 0; what < 8; what++) {
            is("event(" + i + ", " + what + ")", x.event(i, what), want[what]);
        }
    }

    /** A STARTED or SKIPPED event, whose last four fields are 0. */
    void plain(LifecycleEngine x, int i, int kind, int node, int round, int time) {
        event(x, i, kind, node, round, time, 0, 0, 0, 0);
    }

    /** The nodes of all events, in order, and that there are no more. */
    void nodes(LifecycleEngine x, int... want) {
        is("events", x.count(1), want.length);
        for (int i = 0; i < want.length; i++) {
            is("event(" + i + ", 1)", x.event(i, 1), want[i]);
        }
    }

    /** The troubles of event i from the first on; all behind them are NONE. */
    void troubles(LifecycleEngine x, int i, int... want) {
        for (int k = 0; k < 6; k++) {
            is("trouble(" + i + ", " + k + ")", x.trouble(i, k), k < want.length ? want[k] : LifecycleEngine.NONE);
        }
    }

    /** count(0), count(1) and so on. */
    void counts(LifecycleEngine x, int... want) {
        for (int what = 0; what < want.length; what++) {
            is("count(" + what + ")", x.count(what), want[what]);
        }
    }

    void end() {
        System.out.println(asked + " answers, " + wrong + " wrong");
        if (wrong != 0) {
            System.exit(1);
        }
    }
}
