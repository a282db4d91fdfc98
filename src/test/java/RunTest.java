/** Promises 7 to 10: run, event, trouble, count. */
public final class RunTest {
    private static final int REFUSED = -1;
    private static final int NONE = -1000;
    private static final Due due = new Due();

    public static void main(String[] args) {
        wrongInputs();
        childrenGoByOrder();
        choosing();
        nothingChosen();
        openAllFails();
        openAllGivesUp();
        containerListIsItsOwn();
        openEachFails();
        closeEachAlways();
        deadline();
        firstTroubleDecides();
        instances();
        breakStopsRounds();
        breakCountsFailedRoundsOnly();
        breakSkipsContainers();
        brokenRunEndsItsContainers();
        disabledInsideTroubled();
        answerOfRun();
        rowsAreUsedAgain();
        gettersWrongInputs();
        longestRun();
        countsStartAnew();
        due.end();
    }

    private static void wrongInputs() {
        LifecycleEngine x = new LifecycleEngine();
        x.test(0, 0, 1, 1);
        x.run(0, 0, 0);
        int[] masks = {-1, 256, Integer.MIN_VALUE, Integer.MAX_VALUE};
        for (int mask : masks) {
            due.is("wanted " + mask, x.run(mask, 0, 0), REFUSED);
            due.is("unwanted " + mask, x.run(0, mask, 0), REFUSED);
        }
        int[] breaks = {-1, 10, Integer.MIN_VALUE, Integer.MAX_VALUE};
        for (int broken : breaks) {
            due.is("break " + broken, x.run(0, 0, broken), REFUSED);
        }
        due.counts(x, 2, 4, 1, 0, 0, 0, 0, 1, 0, 1, 1);
        due.plain(x, 1, 1, 1, 0, 0);
        due.is("highest", x.run(255, 255, 9), 0);
        due.is("none chosen", x.count(1), 0);
    }

    private static void childrenGoByOrder() {
        LifecycleEngine x = new LifecycleEngine();
        x.test(0, 50, 1, 1);
        x.container(0, 7, false);
        x.test(0, 7, 1, 1);
        x.test(0, 0, 1, 1);
        x.test(2, 99, 1, 1);
        x.test(2, 98, 1, 1);
        x.test(0, 50, 1, 1);
        x.test(0, 99, 1, 1);
        x.container(0, 50, false);
        x.test(9, 0, 1, 1);
        x.run(0, 0, 0);
        int[] nodes = {0, 4, 4, 2, 6, 6, 5, 5, 2, 3, 3, 1, 1, 7, 7, 9, 10, 10, 9, 8, 8, 0};
        due.is("events", x.count(1), nodes.length);
        for (int i = 0; i < nodes.length; i++) {
            due.is("node of event " + i, x.event(i, 1), nodes[i]);
        }
    }

    private static void choosing() {
        LifecycleEngine x = new LifecycleEngine();
        x.container(0, 0, false);
        x.container(1, 0, false);
        x.test(2, 0, 1, 1);
        x.test(2, 1, 1, 1);
        x.container(0, 1, false);
        x.test(5, 0, 1, 1);
        x.container(0, 2, false);
        x.mark(1, 1, false);
        x.mark(3, 2, false);
        x.mark(4, 4, false);
        x.mark(6, 2, false);
        x.mark(7, 2, false);
        x.run(2, 0, 0);
        due.is("tests 3 and 6", x.count(10), 2);
        due.is("an empty container is never chosen", x.count(1), 12);
        x.run(2, 1, 0);
        due.is("test 6", x.count(10), 1);
        int[] nodes = {0, 5, 6, 6, 5, 0};
        for (int i = 0; i < nodes.length; i++) {
            due.is("node of event " + i, x.event(i, 1), nodes[i]);
        }
        x.run(1, 4, 0);
        due.is("test 3 by its container's container", x.count(10), 1);
        due.is("round", x.event(3, 1), 3);
        x.run(0, 2, 0);
        due.is("test 4", x.count(10), 1);
        due.is("round", x.event(3, 1), 4);
        x.run(7, 7, 0);
        due.is("unwanted wins", x.count(10), 0);
    }

    private static void nothingChosen() {
        LifecycleEngine x = new LifecycleEngine();
        x.container(0, 0, true);
        x.test(1, 0, 1, 5);
        x.test(1, 1, 1, 5);
        x.mark(3, 0, true);
        x.method(0, 0, 0, 0, 3);
        x.method(2, 4, 1, 9, 3);
        x.method(1, 3, 1, 9, 3);
        due.is("run", x.run(0, 0, 0), 1);
        due.counts(x, 4, 7, 0, 1, 0, 1, 1, 2, 9, 3, 2);
        due.is("run", x.run(1, 0, 0), 0);
        due.counts(x, 4, 0, 0, 0, 0, 0, 0, 0, 0, 0, 0);
        due.is("event", x.event(0, 0), NONE);
        due.troubles(x, 3);
    }

    private static void openAllFails() {
        LifecycleEngine x = new LifecycleEngine();
        x.container(0, 0, true);
        x.test(1, 0, 1, 5);
        x.test(0, 1, 1, 5);
        x.method(1, 0, 1, 20, 4);
        x.method(1, 3, 2, 21, 5);
        due.is("run", x.run(0, 0, 0), 1);
        due.plain(x, 0, 1, 0, 0, 0);
        due.plain(x, 1, 1, 1, 0, 0);
        due.event(x, 2, 2, 1, 0, 9, 1, 20, 1, 1);
        due.plain(x, 3, 1, 3, 0, 9);
        due.event(x, 4, 2, 3, 0, 9, 0, -1, 0, 2);
        due.event(x, 5, 2, 0, 0, 9, 0, -1, 0, 0);
        due.troubles(x, 2, 20, 21);
        due.counts(x, 4, 6, 1, 0, 0, 0, 1, 2, 9, 3, 2);
    }

    private static void openAllGivesUp() {
        LifecycleEngine x = new LifecycleEngine();
        x.test(0, 0, 3, 5);
        x.method(0, 0, 2, 20, 4);
        x.method(0, 3, 1, 21, 5);
        due.is("the first trouble decides", x.run(0, 0, 0), 0);
        due.event(x, 1, 2, 0, 0, 9, 2, 20, 1, 0);
        due.counts(x, 2, 2, 0, 0, 0, 0, 1, 0, 9, 2, 1);
    }

    private static void containerListIsItsOwn() {
        LifecycleEngine x = new LifecycleEngine();
        x.container(0, 0, true);
        x.container(1, 0, true);
        x.test(2, 0, 1, 5);
        x.method(3, 4, 1, 1, 0);
        x.method(2, 3, 2, 2, 0);
        x.method(1, 3, 1, 3, 0);
        due.is("run", x.run(0, 0, 0), 1);
        due.event(x, 4, 2, 3, 0, 0, 1, 1, 0, 2);
        due.event(x, 5, 2, 2, 0, 0, 2, 2, 0, 2);
        due.event(x, 6, 2, 1, 0, 0, 1, 3, 0, 1);
        due.event(x, 7, 2, 0, 0, 0, 0, -1, 0, 0);
        due.troubles(x, 6, 3);
        due.troubles(x, 7);
        due.is("troubled containers", x.count(6), 2);
    }

    /** Node 0, 1, 2, 3 below one another, the test 4 at the end, all with OPEN EACH and CLOSE EACH. */
    private static LifecycleEngine deepTest() {
        LifecycleEngine x = new LifecycleEngine();
        for (int node = 0; node < 3; node++) {
            x.container(node, 0, false);
        }
        x.test(3, 0, 1, 10);
        for (int node = 0; node < 4; node++) {
            x.method(node, 1, 0, 0, 1);
            x.method(node, 2, 0, 0, 10);
        }
        x.method(4, 4, 0, 0, 5);
        return x;
    }

    private static void openEachFails() {
        for (int bad = 0; bad < 4; bad++) {
            LifecycleEngine x = deepTest();
            x.method(bad, 1, 1 + bad % 2, 70 + bad, 1);
            due.is("run", x.run(0, 0, 0), 1 - bad % 2);
            due.event(x, 5, 2, 4, 0, 11 * (bad + 1), 1 + bad % 2, 70 + bad, 0, 4);
            due.is("calls", x.count(9), 2 * (bad + 1));
        }
        LifecycleEngine x = deepTest();
        x.run(0, 0, 0);
        due.event(x, 5, 2, 4, 0, 49, 0, -1, 0, 4);
        due.is("calls", x.count(9), 9);
    }

    private static void closeEachAlways() {
        LifecycleEngine x = deepTest();
        x.method(4, 4, 2, 50, 5);
        for (int node = 0; node < 4; node++) {
            x.method(node, 2, 1, 60 + node, 1);
        }
        due.is("run", x.run(0, 0, 0), 0);
        due.event(x, 5, 2, 4, 0, 13, 2, 50, 4, 4);
        due.troubles(x, 5, 50, 63, 62, 61);
        x.method(4, 4, 0, 50, 5);
        due.is("run", x.run(0, 0, 0), 1);
        due.event(x, 5, 2, 4, 0, 13, 1, 63, 3, 4);
        due.troubles(x, 5, 63, 62, 61, 60);
        x.without(3, 1);
        x.without(1, 2);
        x.method(2, 1, 1, 40, 1);
        x.run(0, 0, 0);
        due.troubles(x, 5, 40, 62, 60);
        x.without(2, 1);
        x.run(0, 0, 0);
        due.troubles(x, 5, 63, 62, 60);
    }

    private static void deadline() {
        LifecycleEngine x = new LifecycleEngine();
        x.test(0, 0, 3, 7);
        x.method(0, 1, 0, 0, 50);
        x.method(1, 4, 0, 0, 7);
        x.method(1, 5, 0, 0, 8);
        x.method(1, 6, 2, 30, 50);
        due.is("run", x.run(0, 0, 0), 1);
        due.event(x, 2, 2, 1, 0, 57, 0, -1, 0, 1);
        due.event(x, 4, 2, 1, 1, 114, 1, 100, 0, 2);
        due.event(x, 6, 2, 1, 2, 171, 1, 100, 0, 3);
        due.troubles(x, 6, 100);
        due.counts(x, 2, 8, 1, 2, 0, 0, 0, 3, 171, 6, 1);
        x.method(1, 6, 2, 30, 7);
        x.run(0, 0, 0);
        due.event(x, 6, 2, 1, 2, 171, 2, 30, 0, 3);
        x.method(1, 4, 1, 31, 9);
        x.run(0, 0, 0);
        due.event(x, 2, 2, 1, 0, 57, 1, 100, 0, 1);
    }

    private static void firstTroubleDecides() {
        LifecycleEngine x = new LifecycleEngine();
        x.test(0, 0, 2, 7);
        x.method(0, 2, 1, 5, 0);
        x.method(1, 4, 2, 6, 0);
        x.method(1, 5, 1, 7, 0);
        due.is("run", x.run(0, 0, 0), 1);
        due.event(x, 2, 2, 1, 0, 0, 2, 6, 1, 1);
        due.event(x, 4, 2, 1, 1, 0, 1, 7, 1, 2);
        x.method(0, 2, 2, 5, 0);
        due.is("run", x.run(0, 0, 0), 1);
        due.event(x, 4, 2, 1, 1, 0, 1, 7, 1, 2);
        due.counts(x, 2, 6, 0, 1, 1, 0, 0, 2, 0, 4, 1);
    }

    private static void instances() {
        LifecycleEngine x = new LifecycleEngine();
        x.container(0, 0, false);
        x.container(1, 0, true);
        x.container(2, 0, false);
        x.test(3, 0, 2, 1);
        x.test(2, 1, 1, 1);
        x.test(1, 1, 1, 1);
        x.container(0, 1, true);
        x.test(7, 0, 1, 1);
        x.run(0, 0, 0);
        int[] finished = {5, 7, 8, 10, 11, 13, 14, 17, 18, 19};
        int[] nodes = {4, 4, 3, 5, 2, 6, 1, 8, 7, 0};
        int[] numbers = {4, 7, 0, 1, 1, 11, 0, 12, 12, 0};
        for (int k = 0; k < finished.length; k++) {
            due.is("kind of event " + finished[k], x.event(finished[k], 0), 2);
            due.is("node of event " + finished[k], x.event(finished[k], 1), nodes[k]);
            due.is("instance of event " + finished[k], x.event(finished[k], 7), numbers[k]);
        }
        due.is("instances", x.count(7), 13);
        x.run(0, 0, 0);
        due.is("numbers start anew", x.event(5, 7), 4);
    }

    private static void breakStopsRounds() {
        LifecycleEngine x = new LifecycleEngine();
        x.test(0, 0, 3, 9);
        x.test(0, 1, 3, 9);
        for (int kind = 4; kind <= 6; kind++) {
            x.method(1, kind, 1, kind, 2);
        }
        due.is("run", x.run(0, 0, 1), 1);
        due.event(x, 2, 2, 1, 0, 2, 1, 4, 0, 1);
        due.plain(x, 3, 3, 1, 1, 2);
        due.plain(x, 4, 3, 2, 0, 2);
        due.event(x, 5, 2, 0, 0, 2, 0, -1, 0, 0);
        due.counts(x, 3, 6, 0, 1, 0, 2, 0, 1, 2, 1, 2);
        x.run(0, 0, 2);
        due.plain(x, 5, 3, 1, 2, 4);
        due.plain(x, 6, 3, 2, 0, 4);
        x.run(0, 0, 3);
        due.is("all rounds of the first are done", x.event(6, 2), 2);
        due.plain(x, 7, 3, 2, 0, 6);
        due.is("skipped", x.count(5), 1);
        x.run(0, 0, 4);
        due.is("not reached", x.count(5), 0);
        x.run(0, 0, 0);
        due.is("no break", x.count(5), 0);
        due.is("no break", x.count(1), 14);
    }

    private static void breakCountsFailedRoundsOnly() {
        LifecycleEngine x = new LifecycleEngine();
        x.container(0, 0, false);
        x.test(1, 0, 2, 9);
        x.container(0, 1, false);
        x.test(3, 0, 2, 9);
        x.method(2, 4, 2, 1, 0);
        x.method(2, 5, 2, 1, 0);
        x.method(1, 3, 1, 2, 0);
        due.is("a container failed", x.run(0, 0, 1), 1);
        due.counts(x, 5, 14, 2, 0, 2, 0, 1, 8, 0, 5, 2);
        x.mark(3, 0, true);
        x.run(0, 0, 1);
        due.is("only the disabled one is skipped", x.count(5), 1);
    }

    private static void breakSkipsContainers() {
        LifecycleEngine x = new LifecycleEngine();
        x.test(0, 0, 1, 9);
        x.container(0, 1, true);
        x.test(2, 0, 1, 9);
        x.test(2, 0, 1, 9);
        x.container(0, 2, true);
        x.test(0, 3, 1, 9);
        x.method(1, 4, 1, 1, 3);
        x.method(2, 0, 0, 0, 3);
        x.run(0, 0, 1);
        due.plain(x, 3, 3, 2, 0, 3);
        due.plain(x, 4, 3, 6, 0, 3);
        due.event(x, 5, 2, 0, 0, 3, 0, -1, 0, 0);
        due.counts(x, 7, 6, 0, 1, 0, 2, 0, 1, 3, 1, 4);
    }

    private static void brokenRunEndsItsContainers() {
        LifecycleEngine x = new LifecycleEngine();
        x.container(0, 0, true);
        x.test(1, 0, 1, 9);
        x.test(1, 1, 1, 9);
        x.method(2, 4, 1, 1, 3);
        x.method(1, 3, 1, 2, 3);
        x.method(0, 3, 2, 3, 3);
        x.run(0, 0, 1);
        due.plain(x, 4, 3, 3, 0, 3);
        due.event(x, 5, 2, 1, 0, 6, 1, 2, 0, 1);
        due.event(x, 6, 2, 0, 0, 9, 2, 3, 0, 0);
        due.is("troubled containers", x.count(6), 2);
    }

    private static void disabledInsideTroubled() {
        LifecycleEngine x = new LifecycleEngine();
        x.container(0, 0, false);
        x.test(1, 0, 1, 9);
        x.mark(2, 0, true);
        x.run(0, 0, 0);
        due.is("its container is started", x.count(1), 5);
        due.plain(x, 2, 3, 2, 0, 0);
        x.method(1, 0, 1, 0, 0);
        x.run(0, 0, 0);
        due.is("its container has failed", x.count(1), 4);
        due.event(x, 2, 2, 1, 0, 0, 1, 0, 0, 0);
        due.troubles(x, 2, 0);
        due.is("skipped", x.count(5), 0);
    }

    private static void answerOfRun() {
        LifecycleEngine x = new LifecycleEngine();
        x.test(0, 0, 1, 9);
        due.is("success", x.run(0, 0, 0), 0);
        x.method(1, 4, 2, 1, 0);
        due.is("aborted", x.run(0, 0, 0), 0);
        x.method(1, 4, 1, 1, 0);
        due.is("failed round", x.run(0, 0, 0), 1);
        x.method(1, 4, 0, 1, 0);
        due.is("success after failure", x.run(0, 0, 0), 0);
        x.method(0, 3, 1, 1, 0);
        due.is("failed container", x.run(0, 0, 0), 1);
        due.is("no failed round", x.count(3), 0);
        x.method(0, 3, 2, 1, 0);
        due.is("aborted container", x.run(0, 0, 0), 0);
        due.is("troubled container", x.count(6), 1);
    }

    private static void rowsAreUsedAgain() {
        LifecycleEngine x = deepTest();
        x.method(4, 4, 1, 50, 5);
        for (int node = 0; node < 4; node++) {
            x.method(node, 2, 1, 60 + node, 1);
        }
        x.run(0, 0, 0);
        due.troubles(x, 5, 50, 63, 62, 61);
        x.test(0, 0, 1, 1);
        x.mark(1, 0, true);
        x.run(0, 0, 0);
        due.plain(x, 1, 3, 1, 0, 0);
        due.is("events", x.count(1), 5);
        due.is("the older event is gone", x.event(5, 0), NONE);
        due.troubles(x, 5);
        x.mark(1, 0, false);
        x.without(0, 2);
        x.mark(4, 1, false);
        x.run(0, 1, 0);
        due.event(x, 2, 2, 5, 0, 1, 0, -1, 0, 1);
        due.troubles(x, 2);
    }

    private static void gettersWrongInputs() {
        LifecycleEngine x = new LifecycleEngine();
        x.test(0, 0, 1, 9);
        x.method(1, 4, 1, 17, 0);
        x.run(0, 0, 0);
        int[] events = {-1, 4, 149, 150, Integer.MIN_VALUE, Integer.MAX_VALUE, 1 << 29, 1 << 30};
        for (int i : events) {
            due.is("event(" + i + ", 0)", x.event(i, 0), NONE);
            due.is("trouble(" + i + ", 0)", x.trouble(i, 0), NONE);
        }
        int[] others = {-1, -4, 8, 12, Integer.MIN_VALUE, Integer.MAX_VALUE};
        for (int other : others) {
            due.is("event(2, " + other + ")", x.event(2, other), NONE);
            due.is("trouble(2, " + other + ")", x.trouble(2, other), NONE);
        }
        due.troubles(x, 0);
        due.troubles(x, 1);
        due.troubles(x, 2, 17);
        due.troubles(x, 3);
        int[] counts = {-1, 11, Integer.MIN_VALUE, Integer.MAX_VALUE};
        for (int what : counts) {
            due.is("count(" + what + ")", x.count(what), NONE);
        }
    }

    /** The tree with the most events that 24 nodes allow: they all fit. */
    private static void longestRun() {
        LifecycleEngine x = new LifecycleEngine();
        for (int node = 1; node < 24; node++) {
            x.test(0, 0, 3, 50);
            for (int kind = 4; kind <= 6; kind++) {
                x.method(node, kind, 1, node, 50);
            }
        }
        x.method(0, 1, 0, 0, 50);
        x.method(0, 2, 2, 0, 50);
        due.is("run", x.run(0, 0, 0), 1);
        due.counts(x, 24, 140, 0, 69, 0, 0, 0, 69, 69 * 150, 69 * 3, 23);
        due.event(x, 138, 2, 23, 2, 69 * 150, 1, 23, 1, 69);
        due.event(x, 139, 2, 0, 0, 69 * 150, 0, -1, 0, 0);
        due.is("no more", x.event(140, 0), NONE);
        x.run(0, 0, 9);
        due.is("failed", x.count(3), 9);
        due.is("each test that is left", x.count(5), 20);
    }

    private static void countsStartAnew() {
        LifecycleEngine x = new LifecycleEngine();
        x.container(0, 0, true);
        x.test(1, 0, 2, 9);
        x.test(1, 1, 1, 9);
        x.mark(3, 0, true);
        x.method(1, 3, 2, 1, 1);
        x.method(2, 4, 2, 1, 2);
        for (int times = 0; times < 3; times++) {
            x.run(0, 0, 0);
            due.counts(x, 4, 9, 1, 0, 1, 1, 1, 3, 3, 3, 2);
        }
    }
}
