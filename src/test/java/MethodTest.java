/** Promises 5 and 6: method, without. */
public final class MethodTest {
    private static final int DONE = 0;
    private static final int REFUSED = -1;
    private static final Due due = new Due();

    public static void main(String[] args) {
        kindsOfContainers();
        kindsOfTests();
        wrongInputs();
        edgesOfRanges();
        setAgain();
        refusedChangesNothing();
        withoutTakesOne();
        withoutWrongInputs();
        givenAgain();
        due.end();
    }

    private static LifecycleEngine containerWithTest() {
        LifecycleEngine x = new LifecycleEngine();
        x.container(0, 0, false);
        x.test(1, 0, 2, 50);
        return x;
    }

    private static void kindsOfContainers() {
        LifecycleEngine x = containerWithTest();
        for (int kind = 0; kind <= 3; kind++) {
            due.is("kind " + kind, x.method(0, kind, 0, 0, 1), DONE);
            due.is("kind " + kind, x.method(1, kind, 0, 0, 1), DONE);
        }
        int[] kinds = {-1, 4, 5, 6, 7, Integer.MIN_VALUE, Integer.MAX_VALUE};
        for (int kind : kinds) {
            due.is("kind " + kind, x.method(1, kind, 0, 0, 0), REFUSED);
        }
        x.run(0, 0, 0);
        due.is("two for each container, two for each container and round, bodies", x.count(9), 4 + 8 + 2);
        due.is("time", x.count(8), 12);
    }

    private static void kindsOfTests() {
        LifecycleEngine x = new LifecycleEngine();
        for (int rounds = 1; rounds <= 3; rounds++) {
            int node = x.test(0, 0, rounds, 50);
            for (int kind = -1; kind <= 8; kind++) {
                boolean fits = kind >= 4 && kind <= 3 + rounds;
                due.is("kind " + kind + " of " + rounds, x.method(node, kind, 0, 0, 0), fits ? DONE : REFUSED);
            }
        }
    }

    private static void wrongInputs() {
        LifecycleEngine x = containerWithTest();
        int[] nodes = {-1, 3, 23, 24, Integer.MIN_VALUE, Integer.MAX_VALUE};
        for (int node : nodes) {
            due.is("node " + node, x.method(node, 0, 0, 0, 0), REFUSED);
            due.is("node " + node, x.method(node, 4, 0, 0, 0), REFUSED);
        }
        int[] results = {-1, 3, Integer.MIN_VALUE, Integer.MAX_VALUE};
        for (int result : results) {
            due.is("result " + result, x.method(1, 0, result, 0, 0), REFUSED);
        }
        int[] codes = {-1, 100, Integer.MIN_VALUE, Integer.MAX_VALUE};
        for (int code : codes) {
            due.is("code " + code, x.method(1, 0, 0, code, 0), REFUSED);
        }
        int[] lengths = {-1, 51, Integer.MIN_VALUE, Integer.MAX_VALUE};
        for (int length : lengths) {
            due.is("length " + length, x.method(1, 0, 0, 0, length), REFUSED);
        }
        due.is("none came to be there", x.without(1, 0), REFUSED);
    }

    private static void edgesOfRanges() {
        LifecycleEngine x = containerWithTest();
        due.is("lowest", x.method(1, 3, 0, 0, 0), DONE);
        due.is("highest", x.method(1, 3, 2, 99, 50), DONE);
        x.run(0, 0, 0);
        due.event(x, 6, 2, 1, 0, 50, 2, 99, 0, 0);
    }

    private static void setAgain() {
        LifecycleEngine x = containerWithTest();
        x.method(2, 4, 1, 10, 5);
        x.method(2, 5, 1, 11, 6);
        x.method(2, 4, 2, 12, 7);
        x.run(0, 0, 0);
        due.event(x, 3, 2, 2, 0, 7, 2, 12, 0, 2);
        due.event(x, 5, 2, 2, 1, 13, 1, 11, 0, 4);
    }

    private static void refusedChangesNothing() {
        LifecycleEngine x = containerWithTest();
        x.method(1, 0, 1, 10, 5);
        x.method(1, 0, 3, 11, 6);
        x.method(1, 0, 2, 100, 6);
        x.method(1, 0, 2, 11, 51);
        due.is("run", x.run(0, 0, 0), 1);
        due.event(x, 2, 2, 1, 0, 5, 1, 10, 0, 0);
    }

    private static void withoutTakesOne() {
        LifecycleEngine x = containerWithTest();
        for (int kind = 0; kind <= 3; kind++) {
            x.method(0, kind, 0, 0, 1);
            x.method(1, kind, 0, 0, 1);
        }
        for (int kind = 0; kind <= 3; kind++) {
            due.is("there", x.without(1, kind), DONE);
            due.is("there no more", x.without(1, kind), REFUSED);
        }
        x.run(0, 0, 0);
        due.is("calls", x.count(9), 2 + 4 + 2);
        due.is("time", x.count(8), 6);
    }

    private static void withoutWrongInputs() {
        LifecycleEngine x = containerWithTest();
        int[] nodes = {-1, 2, 3, 24, Integer.MIN_VALUE, Integer.MAX_VALUE};
        for (int node : nodes) {
            for (int kind = -1; kind <= 7; kind++) {
                due.is("without(" + node + ", " + kind + ")", x.without(node, kind), REFUSED);
            }
        }
        // A kind out of range must not reach the methods of the nodes beside.
        x.method(0, 3, 0, 0, 0);
        x.method(1, 0, 0, 0, 0);
        int[] kinds = {-7, -4, -1, 4, 7, Integer.MIN_VALUE, Integer.MAX_VALUE};
        for (int kind : kinds) {
            due.is("without(0, " + kind + ")", x.without(0, kind), REFUSED);
            due.is("without(1, " + kind + ")", x.without(1, kind), REFUSED);
        }
        due.is("still there", x.without(0, 3), DONE);
        due.is("still there", x.without(1, 0), DONE);
        x.run(0, 0, 0);
        due.is("bodies stay", x.count(9), 2);
    }

    private static void givenAgain() {
        LifecycleEngine x = containerWithTest();
        x.method(1, 0, 1, 10, 5);
        x.without(1, 0);
        due.is("run without", x.run(0, 0, 0), 0);
        due.is("given again", x.method(1, 0, 0, 0, 3), DONE);
        due.is("run with", x.run(0, 0, 0), 0);
        due.is("time", x.count(8), 3);
        due.is("taken again", x.without(1, 0), DONE);
    }
}
