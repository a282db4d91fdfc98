/** The boundary cases of the promises 5 and 6, a test for each sentence that names one. */
public final class MethodEdgesTest {
    private static final int DONE = 0;
    private static final int REFUSED = -1;
    private static final Due due = new Due();

    public static void main(String[] args) {
        methodNode();
        methodKindOfContainer();
        methodKindOfTest();
        methodResult();
        methodCode();
        methodLength();
        methodAtMostOne();
        methodsAreApart();
        withoutTakes();
        withoutHasNone();
        withoutKind();
        withoutContainer();
        bodyAlwaysThere();
        givenAgain();
        due.end();
    }

    private static void methodNode() {
        due.sentence("Gives the node the method .. else REFUSED");
        for (int kind : new int[] {0, 3, 4, 6}) {
            for (int node : Edges.outside(0, 4)) {
                Edges.refused(due, "method(" + node + ", " + kind + ", ..)", x -> x.method(node, kind, 1, 1, 1));
            }
            Edges.refused(due, "method(23, " + kind + ", ..)", x -> x.method(23, kind, 1, 1, 1));
            // So many times seven kinds is 3 by wrap-around.
            Edges.refused(due, "method(613566757, ..)", x -> x.method(613566757, kind, 1, 1, 1));
        }
    }

    private static void methodKindOfContainer() {
        due.sentence("kind 0 .. 3 for a container");
        for (int node = 0; node <= 1; node++) {
            int container = node;
            for (int kind = 0; kind <= 3; kind++) {
                due.is("method(" + node + ", " + kind + ", ..)", Edges.sample().method(node, kind, 0, 0, 0), DONE);
            }
            for (int kind : Edges.outside(0, 3)) {
                Edges.refused(due, "method(" + node + ", " + kind + ", ..)", x -> x.method(container, kind, 1, 1, 1));
            }
            for (int kind = 5; kind <= 14; kind++) {
                int far = kind;
                Edges.refused(due, "method(" + node + ", " + kind + ", ..)", x -> x.method(container, far, 1, 1, 1));
            }
        }
    }

    private static void methodKindOfTest() {
        due.sentence("4 .. 3 + rounds for a test");
        for (int rounds = 1; rounds <= 3; rounds++) {
            LifecycleEngine x = new LifecycleEngine();
            x.test(0, 0, rounds, 50);
            x.test(0, 1, 3, 50);
            for (int kind = -8; kind <= 15; kind++) {
                boolean fits = kind >= 4 && kind <= 3 + rounds;
                due.is("kind " + kind + " of " + rounds, x.method(1, kind, 1, kind + 8, 1), fits ? DONE : REFUSED);
            }
            for (int kind : Edges.outside(4, 3 + rounds)) {
                due.is("kind " + kind + " of " + rounds, x.method(1, kind, 1, 1, 1), REFUSED);
            }
            x.run(0, 0, 0);
            due.counts(x, 3, 2 + 2 * rounds + 6, 3, rounds, 0, 0, 0, rounds + 3, rounds, rounds + 3, 2);
            for (int round = 0; round < rounds; round++) {
                due.troubles(x, 2 + 2 * round, 4 + round + 8);
            }
        }
        Edges.refused(due, "method(2, 6, ..) of two rounds", x -> x.method(2, 6, 1, 1, 1));
        Edges.refused(due, "method(2, 3, ..)", x -> x.method(2, 3, 1, 1, 1));
    }

    /** The container 1, and in it the test 2. */
    private static LifecycleEngine boxWithTest() {
        LifecycleEngine x = new LifecycleEngine();
        x.container(0, 0, false);
        x.test(1, 0, 1, 50);
        return x;
    }

    private static void methodResult() {
        due.sentence("RESULT 0 .. 2");
        int[] answers = {0, 1, 0};
        for (int result = 0; result <= 2; result++) {
            for (int kind = 0; kind <= 4; kind++) {
                LifecycleEngine x = boxWithTest();
                due.is("result " + result, x.method(kind < 4 ? 1 : 2, kind, result, 33, 0), DONE);
                due.is("run with result " + result + " of kind " + kind, x.run(0, 0, 0), answers[result]);
                boolean ofContainer = kind == 0 || kind == 3;
                due.is("troubled containers", x.count(6), result != 0 && ofContainer ? 1 : 0);
                due.is("failed rounds", x.count(3), result == 1 && !ofContainer ? 1 : 0);
                due.is("aborted rounds", x.count(4), result == 2 && !ofContainer ? 1 : 0);
            }
        }
        for (int result : Edges.outside(0, 2)) {
            Edges.refused(due, "method(1, 3, " + result + ", ..)", x -> x.method(1, 3, result, 1, 1));
            Edges.refused(due, "method(1, 1, " + result + ", ..)", x -> x.method(1, 1, result, 1, 1));
            Edges.refused(due, "method(2, 4, " + result + ", ..)", x -> x.method(2, 4, result, 1, 1));
        }
    }

    private static void methodCode() {
        due.sentence("CODE 0 .. 99");
        for (int code = 0; code <= 99; code++) {
            LifecycleEngine x = boxWithTest();
            due.is("code " + code, x.method(1, 3, 1, code, 0), DONE);
            due.is("code " + code, x.method(2, 4, 2, 99 - code, 0), DONE);
            x.run(0, 0, 0);
            due.is("code of the round", x.event(3, 5), 99 - code);
            due.is("code of the container", x.event(4, 5), code);
            due.troubles(x, 4, code);
        }
        for (int code : Edges.outside(0, 99)) {
            Edges.refused(due, "method(1, 3, 1, " + code + ", 1)", x -> x.method(1, 3, 2, code, 1));
            Edges.refused(due, "method(1, 1, 0, " + code + ", 0)", x -> x.method(1, 1, 0, code, 0));
            Edges.refused(due, "method(2, 4, 1, " + code + ", 1)", x -> x.method(2, 4, 2, code, 1));
        }
    }

    private static void methodLength() {
        due.sentence("LENGTH 0 .. 50");
        for (int length = 0; length <= 50; length++) {
            LifecycleEngine x = boxWithTest();
            due.is("length " + length, x.method(1, 3, 0, 0, length), DONE);
            due.is("length " + length, x.method(2, 4, 0, 0, 50 - length), DONE);
            x.run(0, 0, 0);
            due.is("time after the body", x.event(3, 3), 50 - length);
            due.is("time after both", x.count(8), 50);
        }
        for (int length : Edges.outside(0, 50)) {
            Edges.refused(due, "method(1, 3, .., " + length + ")", x -> x.method(1, 3, 2, 1, length));
            Edges.refused(due, "method(1, 1, .., " + length + ")", x -> x.method(1, 1, 0, 0, length));
            Edges.refused(due, "method(2, 4, .., " + length + ")", x -> x.method(2, 4, 2, 1, length));
        }
    }

    private static void methodAtMostOne() {
        due.sentence("or sets it if it's there");
        for (int kind = 0; kind <= 3; kind++) {
            LifecycleEngine x = boxWithTest();
            x.method(1, kind, 1, 1, 1);
            x.method(1, kind, 2, 2, 2);
            due.is("given again", x.method(1, kind, 0, 3, 3), DONE);
            due.is("run", x.run(0, 0, 0), 0);
            due.is("calls", x.count(9), 2);
            due.is("time", x.count(8), 3);
            due.is("taken once", x.without(1, kind), DONE);
            due.is("taken twice", x.without(1, kind), REFUSED);
        }
        LifecycleEngine x = boxWithTest();
        x.method(2, 4, 1, 1, 1);
        x.method(2, 4, 2, 2, 2);
        x.run(0, 0, 0);
        due.event(x, 3, 2, 2, 0, 2, 2, 2, 0, 2);
        due.is("calls", x.count(9), 1);
    }

    private static void methodsAreApart() {
        due.sentence("a container has at most one each of kind 0 .. 3");
        LifecycleEngine x = new LifecycleEngine();
        for (int node = 1; node <= 23; node++) {
            x.container(0, 0, false);
        }
        for (int node = 0; node <= 23; node++) {
            for (int kind = node % 2; kind <= 3; kind += 2) {
                due.is("method", x.method(node, kind, 0, 0, 0), DONE);
            }
        }
        for (int node = 0; node <= 23; node++) {
            for (int kind = 0; kind <= 3; kind++) {
                due.is("without(" + node + ", " + kind + ")", x.without(node, kind), kind % 2 == node % 2 ? DONE : REFUSED);
            }
        }
    }

    private static void withoutTakes() {
        due.sentence("The container has the method (kind 0 .. 3) no more: DONE");
        for (int node = 0; node <= 1; node++) {
            for (int gone = 0; gone <= 3; gone++) {
                LifecycleEngine x = boxWithTest();
                for (int kind = 0; kind <= 3; kind++) {
                    x.method(node, kind, 0, 0, 1 << kind);
                }
                due.is("without(" + node + ", " + gone + ")", x.without(node, gone), DONE);
                x.run(0, 0, 0);
                due.is("time without kind " + gone, x.count(8), 15 - (1 << gone));
                due.is("calls without kind " + gone, x.count(9), 4);
            }
        }
    }

    private static void withoutHasNone() {
        due.sentence("it has none .. : REFUSED");
        for (int kind = 0; kind <= 3; kind++) {
            LifecycleEngine x = boxWithTest();
            due.is("never given", x.without(1, kind), REFUSED);
            due.is("of another container", x.method(0, kind, 0, 0, 0), DONE);
            due.is("still none", x.without(1, kind), REFUSED);
            x.method(1, kind, 0, 0, 0);
            due.is("given", x.without(1, kind), DONE);
            due.is("taken", x.without(1, kind), REFUSED);
            due.is("the other's", x.without(0, kind), DONE);
        }
        Edges.refused(due, "without(0, 0)", x -> x.without(0, 0));
        Edges.refused(due, "without(1, 1)", x -> x.without(1, 1));
    }

    private static void withoutKind() {
        due.sentence("kind 0 .. 3 (without)");
        for (int node = 0; node <= 1; node++) {
            int container = node;
            for (int kind : Edges.outside(0, 3)) {
                Edges.refused(due, "without(" + node + ", " + kind + ")", x -> x.without(container, kind));
            }
            for (int kind = -14; kind <= 14; kind++) {
                int far = kind;
                if (kind < 0 || kind > 3) {
                    Edges.refused(due, "without(" + node + ", " + kind + ")", x -> x.without(container, far));
                }
            }
        }
    }

    private static void withoutContainer() {
        due.sentence("no such container: REFUSED");
        for (int kind = 0; kind <= 3; kind++) {
            int any = kind;
            Edges.refused(due, "without(2, " + kind + ") of a test", x -> x.without(2, any));
            for (int node : Edges.outside(0, 4)) {
                Edges.refused(due, "without(" + node + ", " + kind + ")", x -> x.without(node, any));
            }
            Edges.refused(due, "without(23, " + kind + ")", x -> x.without(23, any));
            Edges.refused(due, "without(613566757, " + kind + ")", x -> x.without(613566757, any));
        }
    }

    private static void bodyAlwaysThere() {
        due.sentence("a BODY, kind 4 + round, which is always there");
        for (int kind = 4; kind <= 7; kind++) {
            int body = kind;
            Edges.refused(due, "without(2, " + kind + ")", x -> x.without(2, body));
            Edges.refused(due, "without(4, " + kind + ")", x -> x.without(4, body));
        }
    }

    private static void givenAgain() {
        due.sentence("Gives the node the method (after it was taken)");
        for (int kind = 0; kind <= 3; kind++) {
            LifecycleEngine x = boxWithTest();
            x.method(1, kind, 1, 99, 50);
            x.without(1, kind);
            due.is("run without it", x.run(0, 0, 0), 0);
            due.is("time without it", x.count(8), 0);
            due.is("given again", x.method(1, kind, 0, 0, 2), DONE);
            due.is("run with it", x.run(0, 0, 0), 0);
            due.is("time with it", x.count(8), 2);
            due.is("taken again", x.without(1, kind), DONE);
        }
    }
}
