/** Promises 1 to 4: a new object, container, test, mark. */
public final class TreeTest {
    private static final int DONE = 0;
    private static final int REFUSED = -1;
    private static final int FULL = -2;
    private static final int NONE = -1000;
    private static final Due due = new Due();

    public static void main(String[] args) {
        constants();
        newObject();
        nodeZeroIsPlain();
        objectsAreApart();
        containerNumbers();
        containerWrongInputs();
        containerDepth();
        testNumbers();
        testWrongInputs();
        fullTree();
        markWrongInputs();
        markSetsTags();
        markSetsDisabled();
        newNodesAreUnmarked();
        due.end();
    }

    private static void constants() {
        due.is("DONE", LifecycleEngine.DONE, 0);
        due.is("REFUSED", LifecycleEngine.REFUSED, -1);
        due.is("FULL", LifecycleEngine.FULL, -2);
        due.is("NONE", LifecycleEngine.NONE, -1000);
    }

    private static void newObject() {
        LifecycleEngine x = new LifecycleEngine();
        due.counts(x, 1, 0, 0, 0, 0, 0, 0, 0, 0, 0, 0, NONE);
        due.is("event of no run", x.event(0, 0), NONE);
        due.is("trouble of no run", x.trouble(0, 0), NONE);
        for (int kind = -1; kind <= 7; kind++) {
            due.is("without(0, " + kind + ")", x.without(0, kind), REFUSED);
        }
        due.is("run of an empty tree", x.run(0, 0, 0), 0);
        due.counts(x, 1, 0, 0, 0, 0, 0, 0, 0, 0, 0, 0);
    }

    private static void nodeZeroIsPlain() {
        LifecycleEngine x = new LifecycleEngine();
        x.test(0, 0, 1, 1);
        due.is("no tags", x.run(255, 0, 0), 0);
        due.is("no tags", x.count(10), 0);
        due.is("run", x.run(0, 255, 0), 0);
        due.plain(x, 0, 1, 0, 0, 0);
        due.plain(x, 1, 1, 1, 0, 0);
        due.event(x, 2, 2, 1, 0, 0, 0, -1, 0, 1);
        due.event(x, 3, 2, 0, 0, 0, 0, -1, 0, 0);
        due.counts(x, 2, 4, 1, 0, 0, 0, 0, 1, 0, 1, 1);
    }

    private static void objectsAreApart() {
        LifecycleEngine x = new LifecycleEngine();
        LifecycleEngine y = new LifecycleEngine();
        x.test(0, 0, 1, 1);
        x.run(0, 0, 0);
        due.is("nodes of the other", y.count(0), 1);
        due.is("events of the other", y.count(1), 0);
    }

    private static void containerNumbers() {
        LifecycleEngine x = new LifecycleEngine();
        due.is("lowest order", x.container(0, 0, true), 1);
        due.is("highest order", x.container(0, 99, false), 2);
        due.is("below another", x.container(2, 50, true), 3);
        due.is("nodes", x.count(0), 4);
        for (int kind = 0; kind <= 3; kind++) {
            due.is("no method yet", x.without(1, kind), REFUSED);
        }
    }

    private static void containerWrongInputs() {
        LifecycleEngine x = new LifecycleEngine();
        due.is("test", x.test(0, 0, 1, 1), 1);
        int[] parents = {-1, 1, 2, 23, 24, 25, Integer.MIN_VALUE, Integer.MAX_VALUE};
        for (int parent : parents) {
            due.is("container parent " + parent, x.container(parent, 0, true), REFUSED);
            due.is("test parent " + parent, x.test(parent, 0, 1, 1), REFUSED);
        }
        int[] orders = {-1, 100, Integer.MIN_VALUE, Integer.MAX_VALUE};
        for (int order : orders) {
            due.is("container order " + order, x.container(0, order, true), REFUSED);
            due.is("test order " + order, x.test(0, order, 1, 1), REFUSED);
        }
        due.is("nodes", x.count(0), 2);
    }

    private static void containerDepth() {
        LifecycleEngine x = new LifecycleEngine();
        due.is("depth 1", x.container(0, 0, false), 1);
        due.is("depth 2", x.container(1, 0, false), 2);
        due.is("depth 3", x.container(2, 0, false), 3);
        due.is("depth 4", x.container(3, 0, false), REFUSED);
        due.is("test below depth 3", x.test(3, 0, 1, 1), 4);
        due.is("nodes", x.count(0), 5);
    }

    private static void testNumbers() {
        LifecycleEngine x = new LifecycleEngine();
        due.is("lowest", x.test(0, 0, 1, 1), 1);
        due.is("highest", x.test(0, 99, 3, 50), 2);
        due.is("below a test", x.test(1, 0, 1, 1), REFUSED);
        due.is("nodes", x.count(0), 3);
        due.is("run", x.run(0, 0, 0), 0);
        due.is("rounds", x.count(2), 4);
        due.is("bodies are there and return", x.count(9), 4);
        due.is("bodies have no length", x.count(8), 0);
    }

    private static void testWrongInputs() {
        LifecycleEngine x = new LifecycleEngine();
        int[] rounds = {0, -1, 4, Integer.MIN_VALUE, Integer.MAX_VALUE};
        for (int count : rounds) {
            due.is("rounds " + count, x.test(0, 0, count, 1), REFUSED);
        }
        int[] deadlines = {0, -1, 51, Integer.MIN_VALUE, Integer.MAX_VALUE};
        for (int deadline : deadlines) {
            due.is("deadline " + deadline, x.test(0, 0, 1, deadline), REFUSED);
        }
        due.is("nodes", x.count(0), 1);
    }

    private static void fullTree() {
        LifecycleEngine x = new LifecycleEngine();
        due.is("container", x.container(0, 0, false), 1);
        for (int node = 2; node < 24; node++) {
            due.is("test", x.test(0, 0, 1, 1), node);
        }
        due.is("container", x.container(0, 0, false), FULL);
        due.is("test", x.test(1, 0, 1, 1), FULL);
        due.is("container with a wrong order", x.container(0, 100, false), REFUSED);
        due.is("container with a wrong parent", x.container(2, 0, false), REFUSED);
        due.is("test with wrong rounds", x.test(0, 0, 4, 1), REFUSED);
        due.is("test with a wrong parent", x.test(24, 0, 1, 1), REFUSED);
        due.is("nodes", x.count(0), 24);
        due.is("the last node is there", x.mark(23, 1, false), DONE);
        due.is("no node behind it", x.mark(24, 1, false), REFUSED);
    }

    private static void markWrongInputs() {
        LifecycleEngine x = new LifecycleEngine();
        x.test(0, 0, 1, 1);
        due.is("mark", x.mark(1, 1, false), DONE);
        int[] nodes = {-1, 2, 23, 24, Integer.MIN_VALUE, Integer.MAX_VALUE};
        for (int node : nodes) {
            due.is("node " + node, x.mark(node, 0, true), REFUSED);
        }
        int[] masks = {-1, 256, Integer.MIN_VALUE, Integer.MAX_VALUE};
        for (int tags : masks) {
            due.is("tags " + tags, x.mark(1, tags, true), REFUSED);
        }
        x.run(1, 254, 0);
        due.is("tags are as they were", x.count(10), 1);
        due.is("not disabled", x.count(5), 0);
    }

    private static void markSetsTags() {
        LifecycleEngine x = new LifecycleEngine();
        x.test(0, 0, 1, 1);
        due.is("all tags", x.mark(1, 255, false), DONE);
        x.run(128, 0, 0);
        due.is("highest tag", x.count(10), 1);
        due.is("other tags", x.mark(1, 2, false), DONE);
        x.run(128, 0, 0);
        due.is("highest tag is gone", x.count(10), 0);
        x.run(3, 0, 0);
        due.is("one of two is enough", x.count(10), 1);
        due.is("no tags", x.mark(1, 0, false), DONE);
        x.run(255, 0, 0);
        due.is("no tag", x.count(10), 0);
        due.is("tags of node 0", x.mark(0, 4, false), DONE);
        x.run(4, 0, 0);
        due.is("tag of node 0", x.count(10), 1);
        x.run(0, 4, 0);
        due.is("unwanted tag of node 0", x.count(10), 0);
    }

    private static void markSetsDisabled() {
        LifecycleEngine x = new LifecycleEngine();
        x.test(0, 0, 1, 1);
        x.mark(1, 0, true);
        x.run(0, 0, 0);
        due.is("skipped", x.count(5), 1);
        due.is("a disabled test is chosen", x.count(10), 1);
        x.mark(1, 0, false);
        x.run(0, 0, 0);
        due.is("not skipped", x.count(5), 0);
        x.mark(0, 0, true);
        x.run(0, 0, 0);
        due.is("one event", x.count(1), 1);
        due.plain(x, 0, 3, 0, 0, 0);
    }

    private static void newNodesAreUnmarked() {
        LifecycleEngine x = new LifecycleEngine();
        x.mark(0, 1, false);
        x.container(0, 0, false);
        x.test(1, 0, 1, 1);
        x.run(254, 0, 0);
        due.is("no tags of their own", x.count(10), 0);
        x.run(0, 0, 0);
        due.is("not disabled", x.count(5), 0);
    }
}
