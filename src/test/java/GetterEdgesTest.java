/** The boundary cases of the promises 8 to 10, a test for each sentence that names one. */
public final class GetterEdgesTest {
    private static final int NONE = -1000;
    private static final Due due = new Due();

    public static void main(String[] args) {
        eventOutOfRange();
        eventOtherWhat();
        eventOfNoRun();
        eventOfTheLatestRun();
        eventAfterARefusedRun();
        eventFieldsOfStartedAndSkipped();
        eventCodeIfNone();
        eventMoreTroubles();
        eventInstance();
        mostEvents();
        troubleOutOfRange();
        troubleOfEveryLength();
        troubleOfOtherEvents();
        troubleOfNoRun();
        countOtherWhat();
        countNodes();
        countOfNoRun();
        countChosen();
        countMost();
        countOfTheLatestRun();
        gettersChangeNothing();
        due.end();
    }

    /** One test whose body fails with code 17: four events, the round FINISHED is event 2. */
    private static LifecycleEngine fourEvents() {
        LifecycleEngine x = new LifecycleEngine();
        x.test(0, 0, 1, 9);
        x.method(1, 4, 1, 17, 0);
        x.run(0, 0, 0);
        return x;
    }

    private static void eventOutOfRange() {
        due.sentence("No such event .. : NONE");
        LifecycleEngine x = fourEvents();
        int[] places = {-1, -2, -8, 4, 5, 149, 150, 151, 256, 65536, 1 << 29, 1 << 30, (1 << 29) + 2,
            Integer.MIN_VALUE, Integer.MIN_VALUE + 2, Integer.MAX_VALUE};
        for (int i : places) {
            for (int what = 0; what <= 7; what++) {
                due.is("event(" + i + ", " + what + ")", x.event(i, what), NONE);
            }
        }
        due.is("the first", x.event(0, 0), 1);
        due.is("the last", x.event(3, 0), 2);
    }

    private static void eventOtherWhat() {
        due.sentence("another what: NONE (event)");
        LifecycleEngine x = fourEvents();
        for (int i = 0; i <= 3; i++) {
            for (int what : Edges.outside(0, 7)) {
                due.is("event(" + i + ", " + what + ")", x.event(i, what), NONE);
            }
            for (int what = 0; what <= 7; what++) {
                due.isTrue("event(" + i + ", " + what + ") is there", x.event(i, what) != NONE);
            }
        }
        due.is("neither event nor what", x.event(4, 8), NONE);
    }

    private static void eventOfNoRun() {
        due.sentence("No such event (before the first run)");
        LifecycleEngine x = new LifecycleEngine();
        x.test(0, 0, 1, 9);
        for (int what = 0; what <= 7; what++) {
            due.is("event(0, " + what + ")", x.event(0, what), NONE);
        }
        due.is("refused run", x.run(0, 0, 10), -1);
        due.is("event(0, 0)", x.event(0, 0), NONE);
    }

    private static void eventOfTheLatestRun() {
        due.sentence("Of event i (from 0) of the latest run");
        LifecycleEngine x = fourEvents();
        x.test(0, 1, 3, 9);
        x.run(0, 0, 0);
        due.nodes(x, 0, 1, 1, 2, 2, 2, 2, 2, 2, 0);
        x.mark(2, 1, false);
        x.run(0, 1, 0);
        due.nodes(x, 0, 1, 1, 0);
        for (int i = 4; i <= 10; i++) {
            due.is("event(" + i + ", 0)", x.event(i, 0), NONE);
        }
        due.sentence("Of event i .. of the latest run, though the tree has changed since");
        String before = Edges.picture(x);
        x.method(1, 4, 2, 18, 3);
        x.mark(1, 3, true);
        x.container(0, 0, true);
        x.test(0, 0, 1, 1);
        due.same("events and troubles", tail(Edges.picture(x)), tail(before));
        due.is("chosen", x.count(10), 1);
    }

    /** All but the counts, as the nodes are counted too. */
    private static String tail(String picture) {
        return picture.substring(picture.indexOf('\n'));
    }

    private static void eventAfterARefusedRun() {
        due.sentence("A refused call changes nothing (run)");
        LifecycleEngine x = fourEvents();
        String before = Edges.picture(x);
        due.is("wanted", x.run(256, 0, 0), -1);
        due.is("unwanted", x.run(0, 256, 0), -1);
        due.is("break", x.run(0, 0, 10), -1);
        due.same("picture", Edges.picture(x), before);
    }

    private static void eventFieldsOfStartedAndSkipped() {
        due.sentence("for kinds 1 and 3 fields 4 to 7 are 0");
        LifecycleEngine x = new LifecycleEngine();
        x.test(0, 0, 3, 9);
        x.container(0, 1, true);
        x.test(2, 0, 1, 9);
        x.method(0, 2, 1, 55, 1);
        x.method(2, 3, 1, 56, 1);
        x.run(0, 0, 0);
        // The rounds' FINISHED events lie where the next runs have others.
        x.run(0, 0, 1);
        due.plain(x, 0, 1, 0, 0, 0);
        due.plain(x, 1, 1, 1, 0, 0);
        due.event(x, 2, 2, 1, 0, 1, 1, 55, 0, 1);
        due.plain(x, 3, 3, 1, 1, 1);
        due.plain(x, 4, 3, 2, 0, 1);
        x.mark(1, 1, false);
        x.run(0, 1, 0);
        due.plain(x, 1, 1, 2, 0, 0);
        due.plain(x, 2, 1, 3, 0, 0);
        due.event(x, 3, 2, 3, 0, 1, 1, 55, 0, 1);
        due.event(x, 4, 2, 2, 0, 2, 1, 56, 0, 1);
        x.mark(0, 0, true);
        x.run(0, 0, 0);
        due.plain(x, 0, 3, 0, 0, 0);
    }

    private static void eventCodeIfNone() {
        due.sentence("the first trouble's CODE (-1 if none)");
        LifecycleEngine x = fourEvents();
        due.is("code 17", x.event(2, 5), 17);
        due.is("no trouble in the container", x.event(3, 5), -1);
        x.method(1, 4, 1, 0, 0);
        x.run(0, 0, 0);
        due.is("code 0", x.event(2, 5), 0);
        x.method(1, 4, 0, 5, 0);
        x.run(0, 0, 0);
        due.is("no trouble in the round", x.event(2, 5), -1);
        due.is("none more", x.event(2, 6), 0);
    }

    /** A test below four containers, so that its list may have five troubles; it is event 5. */
    private static LifecycleEngine withTroubles(int size) {
        LifecycleEngine x = new LifecycleEngine();
        for (int node = 0; node < 3; node++) {
            x.container(node, 0, false);
        }
        x.test(3, 0, 1, 9);
        x.method(4, 4, size > 0 ? 1 : 0, 60, 0);
        for (int k = 1; k < size; k++) {
            x.method(4 - k, 2, 1 + k % 2, 60 + k, 0);
        }
        x.run(0, 0, 0);
        return x;
    }

    private static void eventMoreTroubles() {
        due.sentence("how many more troubles there were");
        for (int size = 0; size <= 5; size++) {
            due.event(withTroubles(size), 5, 2, 4, 0, 0, size == 0 ? 0 : 1, size == 0 ? -1 : 60, Math.max(0, size - 1), 4);
        }
    }

    private static void eventInstance() {
        due.sentence("for a container its own if SHARED, else 0");
        LifecycleEngine x = new LifecycleEngine();
        x.container(0, 0, true);
        x.container(1, 0, false);
        x.container(2, 0, true);
        x.test(3, 0, 1, 9);
        x.method(3, 0, 1, 1, 0);
        x.run(0, 0, 0);
        due.is("shared, its children not done", x.event(4, 7), 2);
        due.is("not shared", x.event(5, 7), 0);
        due.is("shared", x.event(6, 7), 1);
        due.is("node 0", x.event(7, 7), 0);
    }

    private static void mostEvents() {
        due.sentence("At most 150 are kept, the first ones; all are counted (24 nodes make 140 at most)");
        LifecycleEngine x = new LifecycleEngine();
        for (int node = 1; node <= 23; node++) {
            x.test(0, 0, 3, 50);
            x.method(node, 6, 1, node, 1);
        }
        x.run(0, 0, 0);
        due.is("counted", x.count(1), 140);
        due.plain(x, 0, 1, 0, 0, 0);
        for (int node = 1; node <= 23; node++) {
            due.event(x, 6 * node, 2, node, 2, node, 1, node, 0, 3 * node);
            due.is("trouble", x.trouble(6 * node, 0), node);
        }
        due.event(x, 139, 2, 0, 0, 23, 0, -1, 0, 0);
        for (int i = 140; i <= 151; i++) {
            due.is("event(" + i + ", 0)", x.event(i, 0), NONE);
            due.is("trouble(" + i + ", 0)", x.trouble(i, 0), NONE);
        }
    }

    private static void troubleOutOfRange() {
        due.sentence("as long as it is one of the first 4; else NONE (event and k out of range)");
        LifecycleEngine x = withTroubles(5);
        for (int k : Edges.outside(0, 3)) {
            due.is("trouble(5, " + k + ")", x.trouble(5, k), NONE);
        }
        int[] places = {-1, -4, 10, 11, 149, 150, 151, 256, 65536, 1 << 30, (1 << 30) + 5,
            Integer.MIN_VALUE, Integer.MIN_VALUE + 5, Integer.MAX_VALUE};
        for (int i : places) {
            for (int k = 0; k <= 3; k++) {
                due.is("trouble(" + i + ", " + k + ")", x.trouble(i, k), NONE);
            }
        }
    }

    private static void troubleOfEveryLength() {
        due.sentence("The CODE of trouble k (from 0) .. as long as it is one of the first 4");
        for (int size = 0; size <= 5; size++) {
            LifecycleEngine x = withTroubles(size);
            for (int k = 0; k <= 5; k++) {
                due.is("trouble " + k + " of " + size, x.trouble(5, k), k < size && k < 4 ? 60 + k : NONE);
            }
        }
        due.sentence("The CODE of trouble k (the list of a container)");
        LifecycleEngine x = fourEvents();
        x.method(0, 0, 2, 99, 0);
        x.method(0, 3, 1, 0, 0);
        x.run(0, 0, 0);
        due.troubles(x, 1, 99, 0);
    }

    private static void troubleOfOtherEvents() {
        due.sentence("of FINISHED event i .. else NONE");
        LifecycleEngine x = fourEvents();
        due.troubles(x, 0);
        due.troubles(x, 1);
        due.troubles(x, 2, 17);
        due.troubles(x, 3);
        x.test(0, 0, 1, 9);
        x.mark(1, 1, true);
        // Event 1 is SKIPPED now, event 2 STARTED, where there was a trouble before.
        x.run(0, 0, 0);
        due.troubles(x, 1);
        due.troubles(x, 2);
        x.mark(0, 0, true);
        x.run(0, 0, 0);
        due.troubles(x, 0);
        due.troubles(x, 2);
    }

    private static void troubleOfNoRun() {
        due.sentence("else NONE (before the first run, and after one with fewer events)");
        LifecycleEngine x = new LifecycleEngine();
        due.troubles(x, 0);
        LifecycleEngine y = withTroubles(5);
        y.run(1, 0, 0);
        due.troubles(y, 5);
        LifecycleEngine z = withTroubles(5);
        z.method(4, 4, 0, 60, 0);
        z.without(3, 2);
        z.without(1, 2);
        z.run(0, 0, 0);
        due.troubles(z, 5, 62, 64);
    }

    private static void countOtherWhat() {
        due.sentence("another what: NONE (count)");
        for (int what : Edges.outside(0, 10)) {
            due.is("count(" + what + ") of a new object", new LifecycleEngine().count(what), NONE);
            due.is("count(" + what + ")", fourEvents().count(what), NONE);
        }
    }

    private static void countNodes() {
        due.sentence("Nodes (0)");
        LifecycleEngine x = new LifecycleEngine();
        for (int nodes = 1; nodes <= 24; nodes++) {
            due.is("nodes", x.count(0), nodes);
            due.is("next", nodes % 2 == 0 ? x.container(0, 0, false) : x.test(0, 0, 1, 1), nodes == 24 ? -2 : nodes);
        }
        due.is("nodes at the end", x.count(0), 24);
    }

    private static void countOfNoRun() {
        due.sentence("of the latest run (0 if there was none)");
        LifecycleEngine x = new LifecycleEngine();
        for (int what = 1; what <= 10; what++) {
            due.is("count(" + what + ")", x.count(what), 0);
        }
        x.test(0, 0, 3, 9);
        x.method(1, 4, 1, 1, 1);
        x.run(0, 0, -1);
        for (int what = 1; what <= 10; what++) {
            due.is("count(" + what + ") after a refused run", x.count(what), 0);
        }
    }

    private static void countChosen() {
        due.sentence("tests chosen (10)");
        LifecycleEngine x = new LifecycleEngine();
        x.container(0, 0, false);
        for (int node = 2; node <= 23; node++) {
            x.test(node % 2, 0, 1, 9);
        }
        x.run(0, 0, 0);
        due.is("all", x.count(10), 22);
        x.mark(1, 0, true);
        x.mark(2, 0, true);
        x.run(0, 0, 0);
        due.is("disabled ones too", x.count(10), 22);
        x.method(4, 4, 1, 1, 1);
        x.run(0, 0, 1);
        due.is("those that the break skipped too", x.count(10), 22);
        x.mark(0, 0, true);
        x.run(0, 0, 0);
        due.is("all in a disabled one", x.count(10), 22);
        x.mark(23, 1, false);
        x.run(1, 0, 0);
        due.is("one", x.count(10), 1);
        x.run(1, 1, 0);
        due.is("none", x.count(10), 0);
    }

    private static void countMost() {
        due.sentence("instances made (7), TIME at the end (8), method calls (9): the most that can be");
        LifecycleEngine x = new LifecycleEngine();
        for (int node = 0; node < 3; node++) {
            x.container(node, 0, false);
        }
        for (int node = 0; node <= 3; node++) {
            x.method(node, 0, 0, 0, 50);
            x.method(node, 1, 0, 0, 50);
            x.method(node, 2, 1, 99, 50);
            x.method(node, 3, 2, 99, 50);
        }
        for (int node = 4; node <= 23; node++) {
            x.test(3, 0, 3, 50);
            for (int kind = 4; kind <= 6; kind++) {
                x.method(node, kind, 2, 99, 50);
            }
        }
        due.is("run", x.run(0, 0, 9), 0);
        due.counts(x, 24, 128, 0, 0, 60, 0, 4, 240, 60 * 450 + 400, 60 * 9 + 8, 20);
    }

    private static void countOfTheLatestRun() {
        due.sentence("of the latest run: events (1) .. tests chosen (10)");
        LifecycleEngine x = Edges.sample();
        String first = Edges.picture(x);
        x.run(8, 0, 0);
        due.counts(x, 5, 3, 0, 0, 0, 1, 0, 0, 0, 0, 1);
        x.run(0, 0, 0);
        due.same("the first run again", Edges.picture(x), first);
    }

    private static void gettersChangeNothing() {
        due.sentence("Nothing is promised beyond the answers and state changes described (getters change nothing)");
        LifecycleEngine x = Edges.sample();
        String first = Edges.picture(x);
        x.count(11);
        x.event(-1, 0);
        x.event(0, 8);
        x.trouble(0, -1);
        x.trouble(99, 0);
        due.same("the latest run", Edges.picture(x), first);
    }
}
