/** The boundary cases of the promises 1 to 4, a test for each sentence that names one. */
public final class TreeEdgesTest {
    private static final int DONE = 0;
    private static final int REFUSED = -1;
    private static final int FULL = -2;
    private static final int NONE = -1000;
    private static final Due due = new Due();

    public static void main(String[] args) {
        newHasNodeZeroAlone();
        newHasNoTags();
        newHasNoMethods();
        newIsNotShared();
        newHasNoRun();
        containerIsBare();
        containerParentIsContainer();
        containerParentDepth();
        containerOrder();
        containerFull();
        containerRefusedBeforeFull();
        containerNumber();
        testIsBare();
        testParentIsContainer();
        testParentDepth();
        testOrder();
        testRounds();
        testDeadline();
        testFull();
        testRefusedBeforeFull();
        testNumber();
        equalOrders();
        markNode();
        markTags();
        markEveryMask();
        markBoth();
        markNodeZero();
        due.end();
    }

    private static void newHasNodeZeroAlone() {
        due.sentence("node 0, a CONTAINER, is there from the beginning");
        LifecycleEngine x = new LifecycleEngine();
        due.is("count(0)", x.count(0), 1);
        due.is("mark(0)", x.mark(0, 0, false), DONE);
        due.is("mark(1)", x.mark(1, 0, false), REFUSED);
        due.is("a method of a container", x.method(0, 3, 0, 0, 0), DONE);
        due.is("a body", x.method(0, 4, 0, 0, 0), REFUSED);
        due.is("its first child", x.container(0, 0, false), 1);
    }

    private static void newHasNoTags() {
        due.sentence("Node 0 with ORDER 0, no TAGS");
        LifecycleEngine x = new LifecycleEngine();
        x.test(0, 0, 1, 1);
        for (int bit = 1; bit <= 128; bit *= 2) {
            x.run(bit, 0, 0);
            due.is("chosen by " + bit, x.count(10), 0);
        }
        x.run(0, 255, 0);
        due.is("chosen without any", x.count(10), 1);
        due.is("nothing is disabled", x.count(5), 0);
    }

    private static void newHasNoMethods() {
        due.sentence("no methods");
        LifecycleEngine x = new LifecycleEngine();
        for (int kind = 0; kind <= 3; kind++) {
            due.is("without(0, " + kind + ")", x.without(0, kind), REFUSED);
        }
        x.test(0, 0, 1, 1);
        x.run(0, 0, 0);
        due.is("the body alone is called", x.count(9), 1);
    }

    private static void newIsNotShared() {
        due.sentence("node 0 is not");
        LifecycleEngine x = new LifecycleEngine();
        x.test(0, 0, 2, 1);
        x.run(0, 0, 0);
        due.is("first round", x.event(2, 7), 1);
        due.is("second round", x.event(4, 7), 2);
        due.is("node 0 itself", x.event(5, 7), 0);
        due.is("instances", x.count(7), 2);
    }

    private static void newHasNoRun() {
        due.sentence("no run");
        LifecycleEngine x = new LifecycleEngine();
        x.test(0, 0, 1, 1);
        due.counts(x, 2, 0, 0, 0, 0, 0, 0, 0, 0, 0, 0);
        for (int what = 0; what <= 7; what++) {
            due.is("event(0, " + what + ")", x.event(0, what), NONE);
        }
        due.troubles(x, 0);
    }

    private static void containerIsBare() {
        due.sentence("A new container below the parent, without methods and TAGS");
        LifecycleEngine x = new LifecycleEngine();
        for (int kind = 0; kind <= 3; kind++) {
            x.method(0, kind, 1, 9, 9);
        }
        x.mark(0, 255, true);
        int box = x.container(0, 0, false);
        for (int kind = 0; kind <= 3; kind++) {
            due.is("without(1, " + kind + ")", x.without(box, kind), REFUSED);
            x.without(0, kind);
        }
        x.mark(0, 0, false);
        x.test(box, 0, 1, 1);
        x.run(255, 0, 0);
        due.is("chosen by a tag", x.count(10), 0);
        due.is("run", x.run(0, 255, 0), 0);
        due.nodes(x, 0, 1, 2, 2, 1, 0);
        due.is("calls", x.count(9), 1);
    }

    private static void containerParentIsContainer() {
        due.sentence("parent a container (container)");
        LifecycleEngine x = new LifecycleEngine();
        x.test(0, 0, 1, 1);
        due.is("below a test", x.container(1, 0, false), REFUSED);
        due.is("below the number that is next", x.container(2, 0, false), REFUSED);
        for (int parent : Edges.outside(0, 1)) {
            due.is("parent " + parent, x.container(parent, 0, false), REFUSED);
            Edges.refused(due, "container(" + parent + ", 0, true)", y -> y.container(parent, 0, true));
        }
        Edges.refused(due, "container below a test", y -> y.container(2, 0, true));
        Edges.refused(due, "container below none", y -> y.container(5, 0, true));
        due.is("below node 0", x.container(0, 0, false), 2);
    }

    private static void containerParentDepth() {
        due.sentence("of DEPTH 2 or less");
        LifecycleEngine x = new LifecycleEngine();
        due.is("parent of depth 0", x.container(0, 0, false), 1);
        due.is("another of depth 0", x.container(0, 0, false), 2);
        due.is("parent of depth 1", x.container(1, 0, true), 3);
        due.is("another of depth 1", x.container(2, 0, true), 4);
        due.is("parent of depth 2", x.container(3, 0, false), 5);
        due.is("another of depth 2", x.container(4, 0, true), 6);
        due.is("parent of depth 3", x.container(5, 0, false), REFUSED);
        due.is("another of depth 3", x.container(6, 0, true), REFUSED);
        due.is("depth 2 once more", x.container(3, 0, false), 7);
        due.is("nodes", x.count(0), 8);
    }

    private static void containerOrder() {
        due.sentence("order 0 .. 99, else REFUSED (container)");
        for (int order = 0; order <= 99; order++) {
            due.is("order " + order, new LifecycleEngine().container(0, order, true), 1);
        }
        for (int order : Edges.outside(0, 99)) {
            due.is("order " + order, new LifecycleEngine().container(0, order, true), REFUSED);
            Edges.refused(due, "container(0, " + order + ", true)", y -> y.container(0, order, true));
        }
    }

    private static LifecycleEngine fullOfContainers() {
        LifecycleEngine x = new LifecycleEngine();
        for (int node = 1; node <= 23; node++) {
            due.is("container " + node, x.container(0, 99, false), node);
        }
        return x;
    }

    private static void containerFull() {
        due.sentence("24 nodes: FULL (container)");
        LifecycleEngine x = fullOfContainers();
        for (int times = 0; times < 3; times++) {
            due.is("one more", x.container(0, 0, true), FULL);
            due.is("one more below the last", x.container(23, 0, true), FULL);
        }
        due.is("nodes", x.count(0), 24);
        due.is("the last is there", x.mark(23, 0, false), DONE);
        due.is("none behind it", x.mark(24, 0, false), REFUSED);
        due.is("run", x.run(0, 0, 0), 0);
        due.is("none of them has a test", x.count(1), 0);
    }

    private static void containerRefusedBeforeFull() {
        due.sentence("else REFUSED; 24 nodes: FULL (container)");
        LifecycleEngine x = new LifecycleEngine();
        for (int node = 0; node < 3; node++) {
            x.container(node, 0, false);
        }
        for (int node = 4; node <= 23; node++) {
            x.test(0, 0, 1, 1);
        }
        due.is("order too small", x.container(0, -1, false), REFUSED);
        due.is("order too large", x.container(0, 100, false), REFUSED);
        due.is("below a test", x.container(4, 0, false), REFUSED);
        due.is("below none", x.container(24, 0, false), REFUSED);
        due.is("below a number too small", x.container(-1, 0, false), REFUSED);
        due.is("below depth 3", x.container(3, 0, false), REFUSED);
        due.is("nothing wrong", x.container(2, 0, false), FULL);
    }

    private static void containerNumber() {
        due.sentence("Answers its number (container)");
        LifecycleEngine x = new LifecycleEngine();
        due.is("first", x.container(0, 99, false), 1);
        due.is("refused", x.container(0, 100, false), REFUSED);
        due.is("second", x.container(1, 0, false), 2);
        due.is("third, behind a test", x.test(0, 0, 1, 1), 3);
        due.is("fourth", x.container(0, 0, false), 4);
    }

    private static void testIsBare() {
        due.sentence("A new test below the parent, without TAGS");
        LifecycleEngine x = new LifecycleEngine();
        x.test(0, 0, 1, 1);
        x.mark(1, 255, true);
        int test = x.test(0, 1, 3, 1);
        x.run(255, 0, 0);
        due.is("chosen by a tag", x.count(10), 1);
        due.is("run", x.run(0, 255, 0), 0);
        due.nodes(x, 0, test, test, test, test, test, test, 0);
        due.sentence("a BODY, kind 4 + round, which is always there .. At first .. 0, 0, 0");
        due.counts(x, 3, 8, 3, 0, 0, 0, 0, 3, 0, 3, 1);
    }

    private static void testParentIsContainer() {
        due.sentence("parent a container (test)");
        LifecycleEngine x = new LifecycleEngine();
        x.test(0, 0, 1, 1);
        due.is("below a test", x.test(1, 0, 1, 1), REFUSED);
        due.is("below the number that is next", x.test(2, 0, 1, 1), REFUSED);
        for (int parent : Edges.outside(0, 1)) {
            due.is("parent " + parent, x.test(parent, 0, 1, 1), REFUSED);
            Edges.refused(due, "test(" + parent + ", 0, 1, 1)", y -> y.test(parent, 0, 1, 1));
        }
        Edges.refused(due, "test below a test", y -> y.test(2, 0, 1, 1));
        Edges.refused(due, "test below none", y -> y.test(5, 0, 1, 1));
        due.is("below node 0", x.test(0, 0, 1, 1), 2);
    }

    private static void testParentDepth() {
        due.sentence("a container's DEPTH is .. 3 at most (a test may be below any)");
        LifecycleEngine x = new LifecycleEngine();
        for (int node = 0; node < 3; node++) {
            x.container(node, 0, false);
        }
        for (int depth = 0; depth <= 3; depth++) {
            due.is("parent of depth " + depth, x.test(depth, 0, 1, 1), 4 + depth);
        }
        x.run(0, 0, 0);
        due.nodes(x, 0, 1, 2, 3, 7, 7, 3, 6, 6, 2, 5, 5, 1, 4, 4, 0);
    }

    private static void testOrder() {
        due.sentence("order 0 .. 99 (test)");
        for (int order = 0; order <= 99; order++) {
            due.is("order " + order, new LifecycleEngine().test(0, order, 1, 1), 1);
        }
        for (int order : Edges.outside(0, 99)) {
            due.is("order " + order, new LifecycleEngine().test(0, order, 1, 1), REFUSED);
            Edges.refused(due, "test(0, " + order + ", 1, 1)", y -> y.test(0, order, 1, 1));
        }
    }

    private static void testRounds() {
        due.sentence("rounds 1 .. 3");
        for (int rounds = 1; rounds <= 3; rounds++) {
            LifecycleEngine x = new LifecycleEngine();
            due.is("rounds " + rounds, x.test(0, 0, rounds, 1), 1);
            x.run(0, 0, 0);
            due.is("rounds done of " + rounds, x.count(2), rounds);
        }
        for (int rounds : Edges.outside(1, 3)) {
            due.is("rounds " + rounds, new LifecycleEngine().test(0, 0, rounds, 1), REFUSED);
            Edges.refused(due, "test(0, 0, " + rounds + ", 1)", y -> y.test(0, 0, rounds, 1));
        }
    }

    private static void testDeadline() {
        due.sentence("deadline 1 .. 50, else REFUSED");
        for (int deadline = 1; deadline <= 50; deadline++) {
            LifecycleEngine x = new LifecycleEngine();
            due.is("deadline " + deadline, x.test(0, 0, 1, deadline), 1);
            x.method(1, 4, 0, 0, 50);
            x.run(0, 0, 0);
            due.is("time with deadline " + deadline, x.count(8), deadline);
            due.is("failed with deadline " + deadline, x.count(3), deadline < 50 ? 1 : 0);
        }
        for (int deadline : Edges.outside(1, 50)) {
            due.is("deadline " + deadline, new LifecycleEngine().test(0, 0, 1, deadline), REFUSED);
            Edges.refused(due, "test(0, 0, 1, " + deadline + ")", y -> y.test(0, 0, 1, deadline));
        }
    }

    private static void testFull() {
        due.sentence("24 nodes: FULL (test)");
        LifecycleEngine x = new LifecycleEngine();
        for (int node = 1; node <= 23; node++) {
            due.is("test " + node, x.test(0, 99, 1, 1), node);
        }
        for (int times = 0; times < 3; times++) {
            due.is("one more", x.test(0, 0, 3, 50), FULL);
        }
        due.is("a container", x.container(0, 0, false), FULL);
        due.is("nodes", x.count(0), 24);
        due.is("the last is there", x.method(23, 4, 1, 1, 1), DONE);
        due.is("none behind it", x.method(24, 4, 0, 0, 0), REFUSED);
        due.is("run", x.run(0, 0, 0), 1);
        due.counts(x, 24, 48, 22, 1, 0, 0, 0, 23, 1, 23, 23);
        due.is("a test below containers", fullOfContainers().test(0, 0, 1, 1), FULL);
    }

    private static void testRefusedBeforeFull() {
        due.sentence("else REFUSED; 24 nodes: FULL (test)");
        LifecycleEngine x = fullOfContainers();
        due.is("order too small", x.test(0, -1, 1, 1), REFUSED);
        due.is("order too large", x.test(0, 100, 1, 1), REFUSED);
        due.is("rounds too small", x.test(0, 0, 0, 1), REFUSED);
        due.is("rounds too large", x.test(0, 0, 4, 1), REFUSED);
        due.is("deadline too small", x.test(0, 0, 1, 0), REFUSED);
        due.is("deadline too large", x.test(0, 0, 1, 51), REFUSED);
        due.is("below none", x.test(24, 0, 1, 1), REFUSED);
        due.is("below a number too small", x.test(-1, 0, 1, 1), REFUSED);
        due.is("nothing wrong", x.test(23, 0, 1, 1), FULL);
    }

    private static void testNumber() {
        due.sentence("Answers its number (test)");
        LifecycleEngine x = new LifecycleEngine();
        due.is("first", x.test(0, 99, 3, 50), 1);
        due.is("refused", x.test(0, 0, 4, 50), REFUSED);
        due.is("second", x.test(0, 0, 1, 1), 2);
        due.is("third, behind a container", x.container(0, 0, false), 3);
        due.is("fourth", x.test(3, 0, 1, 1), 4);
    }

    private static void equalOrders() {
        due.sentence("by rising ORDER, of equal ones by number, tests and containers mixed");
        LifecycleEngine x = new LifecycleEngine();
        x.test(0, 99, 1, 1);
        x.test(0, 1, 1, 1);
        x.container(0, 1, false);
        x.test(0, 1, 1, 1);
        x.test(0, 0, 1, 1);
        x.container(0, 99, false);
        x.container(0, 0, false);
        x.test(3, 99, 1, 1);
        x.test(6, 0, 1, 1);
        x.test(7, 50, 1, 1);
        x.test(0, 98, 1, 1);
        x.run(0, 0, 0);
        due.nodes(x, 0, 5, 5, 7, 10, 10, 7, 2, 2, 3, 8, 8, 3, 4, 4, 11, 11, 1, 1, 6, 9, 9, 6, 0);
    }

    private static void markNode() {
        due.sentence("Sets the node's .. else REFUSED");
        for (int node = 0; node <= 4; node++) {
            due.is("mark(" + node + ")", Edges.sample().mark(node, 0, false), DONE);
        }
        for (int node : Edges.outside(0, 4)) {
            Edges.refused(due, "mark(" + node + ", 0, true)", x -> x.mark(node, 0, true));
        }
        Edges.refused(due, "mark(23, 0, true)", x -> x.mark(23, 0, true));
        Edges.refused(due, "mark(24, 0, true)", x -> x.mark(24, 0, true));
    }

    private static void markTags() {
        due.sentence("TAGS (0 .. 255)");
        for (int tags : Edges.outside(0, 255)) {
            for (int node = 0; node <= 4; node++) {
                int marked = node;
                Edges.refused(due, "mark(" + node + ", " + tags + ", ..)", x -> x.mark(marked, tags, marked != 4));
            }
        }
    }

    private static void markEveryMask() {
        due.sentence("TAGS (0 .. 255), every mask");
        for (int tags = 0; tags <= 255; tags++) {
            LifecycleEngine x = new LifecycleEngine();
            x.test(0, 0, 1, 1);
            due.is("mark(1, " + tags + ", false)", x.mark(1, tags, false), DONE);
            for (int bit = 1; bit <= 128; bit *= 2) {
                x.run(bit, 0, 0);
                due.is("tags " + tags + " wanted " + bit, x.count(10), (tags & bit) == 0 ? 0 : 1);
                x.run(0, bit, 0);
                due.is("tags " + tags + " unwanted " + bit, x.count(10), (tags & bit) == 0 ? 1 : 0);
            }
        }
    }

    private static void markBoth() {
        due.sentence("Sets the node's TAGS (0 .. 255) and whether it is DISABLED");
        LifecycleEngine x = new LifecycleEngine();
        x.test(0, 0, 1, 1);
        x.mark(1, 3, true);
        x.mark(1, 4, false);
        x.run(3, 0, 0);
        due.is("the older tags", x.count(10), 0);
        x.run(4, 0, 0);
        due.is("the newer tags", x.count(10), 1);
        due.is("disabled no more", x.count(5), 0);
        x.mark(1, 4, true);
        x.run(4, 0, 0);
        due.is("disabled again", x.count(5), 1);
    }

    private static void markNodeZero() {
        due.sentence("Node 0 too");
        LifecycleEngine x = new LifecycleEngine();
        x.test(0, 0, 1, 1);
        due.is("mark(0, 255, true)", x.mark(0, 255, true), DONE);
        due.is("run", x.run(128, 0, 0), 0);
        due.is("events", x.count(1), 1);
        due.plain(x, 0, 3, 0, 0, 0);
        due.is("mark(0, 0, false)", x.mark(0, 0, false), DONE);
        x.run(255, 0, 0);
        due.is("no tags again", x.count(10), 0);
        x.run(0, 0, 0);
        due.nodes(x, 0, 1, 1, 0);
    }
}
