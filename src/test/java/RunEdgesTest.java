/** The boundary cases of promise 7 and of the terms that a run is told with, a test for each sentence that names one. */
public final class RunEdgesTest {
    private static final int NONE = -1000;
    private static final Due due = new Due();

    public static void main(String[] args) {
        wantedRange();
        unwantedRange();
        breakRange();
        wantedIsZero();
        wantedHasABit();
        unwantedHasABit();
        allTagsOfEveryDepth();
        containerChosenAtAnyDepth();
        emptyContainersArePassedOver();
        nothingChosen();
        timeStartsAtZero();
        resultZeroJoinsNothing();
        lengthAboveDeadline();
        lateBodyDoesNotGiveUp();
        lateBodiesAddUp();
        onlyBodiesAreCut();
        statusOfList();
        instancesStartAtOne();
        disabledIsSkipped();
        breakOfZero();
        breakIsReached();
        breakBetweenRounds();
        breakSkipsContainers();
        breakCountsFailedRounds();
        openAllInTrouble();
        closeAllInTrouble();
        newListEachTime();
        openEachInTrouble();
        closeEachOfTheReached();
        roundsWithoutMethods();
        sharedAtEveryDepth();
        answerIsOne();
        lastCallOfAnObject();
        due.end();
    }

    /** A test in each of the containers 0 to 3, which are below one another; the tests are 4 to 7. */
    private static LifecycleEngine ladder() {
        LifecycleEngine x = new LifecycleEngine();
        for (int node = 0; node < 3; node++) {
            x.container(node, 0, false);
        }
        for (int node = 0; node <= 3; node++) {
            x.test(node, 1, 1, 50);
        }
        return x;
    }

    private static LifecycleEngine oneTest(int rounds, int deadline) {
        LifecycleEngine x = new LifecycleEngine();
        x.test(0, 0, rounds, deadline);
        return x;
    }

    private static void wantedRange() {
        due.sentence("wanted .. 0 .. 255 .. else REFUSED");
        for (int wanted = 0; wanted <= 255; wanted++) {
            LifecycleEngine x = oneTest(1, 1);
            x.mark(1, 255, false);
            due.is("wanted " + wanted, x.run(wanted, 0, 0), 0);
            due.is("chosen by " + wanted, x.count(10), 1);
        }
        for (int wanted : Edges.outside(0, 255)) {
            Edges.refused(due, "run(" + wanted + ", 0, 0)", y -> y.run(wanted, 0, 0));
        }
    }

    private static void unwantedRange() {
        due.sentence("unwanted 0 .. 255 .. else REFUSED");
        for (int unwanted = 0; unwanted <= 255; unwanted++) {
            LifecycleEngine x = oneTest(1, 1);
            x.mark(1, 255, false);
            due.is("unwanted " + unwanted, x.run(0, unwanted, 0), 0);
            due.is("chosen despite " + unwanted, x.count(10), unwanted == 0 ? 1 : 0);
        }
        for (int unwanted : Edges.outside(0, 255)) {
            Edges.refused(due, "run(0, " + unwanted + ", 0)", y -> y.run(0, unwanted, 0));
        }
    }

    private static void breakRange() {
        due.sentence("broken (the BREAK) 0 .. 9, else REFUSED");
        for (int broken = 0; broken <= 9; broken++) {
            due.is("broken " + broken, oneTest(1, 1).run(0, 0, broken), 0);
        }
        for (int broken : Edges.outside(0, 9)) {
            Edges.refused(due, "run(0, 0, " + broken + ")", y -> y.run(0, 0, broken));
        }
    }

    private static void wantedIsZero() {
        due.sentence("A test is CHOSEN if WANTED is 0");
        LifecycleEngine x = oneTest(1, 1);
        x.run(0, 0, 0);
        due.is("without tags", x.count(10), 1);
        x.run(255, 0, 0);
        due.is("without tags, all wanted", x.count(10), 0);
        x.mark(1, 255, false);
        x.run(0, 0, 0);
        due.is("with all tags", x.count(10), 1);
    }

    private static void wantedHasABit() {
        due.sentence("or its ALL TAGS have a bit of it");
        for (int bit = 1; bit <= 128; bit *= 2) {
            LifecycleEngine x = oneTest(1, 1);
            x.mark(1, bit, false);
            x.run(bit, 0, 0);
            due.is("the same bit " + bit, x.count(10), 1);
            x.run(255, 0, 0);
            due.is("one of all " + bit, x.count(10), 1);
            x.run(255 - bit, 0, 0);
            due.is("all but " + bit, x.count(10), 0);
            x.mark(1, 255 - bit, false);
            x.run(bit, 0, 0);
            due.is("all tags but " + bit, x.count(10), 0);
        }
    }

    private static void unwantedHasABit() {
        due.sentence("and they have none of UNWANTED");
        for (int bit = 1; bit <= 128; bit *= 2) {
            LifecycleEngine x = oneTest(1, 1);
            x.run(0, 255, 0);
            due.is("without tags, all unwanted", x.count(10), 1);
            x.mark(1, bit, false);
            x.run(0, bit, 0);
            due.is("the same bit " + bit, x.count(10), 0);
            x.run(0, 255 - bit, 0);
            due.is("all but " + bit, x.count(10), 1);
            x.run(bit, bit, 0);
            due.is("wanted and unwanted " + bit, x.count(10), 0);
            x.mark(1, 255, false);
            x.run(255 - bit, bit, 0);
            due.is("others wanted, unwanted " + bit, x.count(10), 0);
        }
    }

    private static void allTagsOfEveryDepth() {
        due.sentence("A node's ALL TAGS are its own and those of all containers it is in");
        for (int node = 0; node <= 3; node++) {
            LifecycleEngine x = ladder();
            x.mark(node, 16, false);
            x.run(16, 0, 0);
            due.is("wanted tag of container " + node, x.count(10), 4 - node);
            x.run(0, 16, 0);
            due.is("unwanted tag of container " + node, x.count(10), node);
            x.mark(node, 0, false);
            x.mark(4 + node, 16, false);
            x.run(16, 0, 0);
            due.is("wanted tag of test " + (4 + node), x.count(10), 1);
            x.run(0, 16, 0);
            due.is("unwanted tag of test " + (4 + node), x.count(10), 3);
        }
        LifecycleEngine same = ladder();
        for (int node = 0; node <= 7; node++) {
            same.mark(node, 255, false);
            same.run(128, 0, 0);
            due.is("the same tags up to node " + node, same.count(10), 4);
        }
        LifecycleEngine x = ladder();
        x.mark(0, 1, false);
        x.mark(2, 2, false);
        x.mark(7, 4, false);
        x.run(2, 4, 0);
        due.nodes(x, 0, 1, 2, 6, 6, 2, 1, 0);
        x.run(4, 1, 0);
        due.is("unwanted tag of node 0", x.count(10), 0);
    }

    private static void containerChosenAtAnyDepth() {
        due.sentence("A container is CHOSEN if a chosen test is in it, at any depth");
        int[][] nodes = {{0, 4, 4, 0}, {0, 1, 5, 5, 1, 0}, {0, 1, 2, 6, 6, 2, 1, 0}, {0, 1, 2, 3, 7, 7, 3, 2, 1, 0}};
        for (int depth = 0; depth <= 3; depth++) {
            LifecycleEngine x = ladder();
            x.mark(4 + depth, 1, false);
            x.run(1, 0, 0);
            due.nodes(x, nodes[depth]);
        }
    }

    private static void emptyContainersArePassedOver() {
        due.sentence("others are passed over without an event");
        LifecycleEngine x = new LifecycleEngine();
        x.container(0, 0, true);
        x.container(1, 0, true);
        x.container(2, 0, true);
        x.test(0, 50, 1, 1);
        x.container(0, 99, true);
        x.test(5, 0, 1, 1);
        x.mark(1, 1, true);
        x.mark(6, 2, true);
        x.method(1, 0, 1, 1, 1);
        x.method(5, 0, 1, 1, 1);
        x.run(0, 2, 0);
        due.nodes(x, 0, 4, 4, 0);
        due.counts(x, 7, 4, 1, 0, 0, 0, 0, 1, 0, 1, 1);
    }

    private static void nothingChosen() {
        due.sentence("If no test is chosen nothing happens but that the events are gone");
        LifecycleEngine x = Edges.sample();
        due.is("run before", x.run(0, 0, 0), 1);
        due.is("run", x.run(128, 0, 0), 0);
        due.counts(x, 5, 0, 0, 0, 0, 0, 0, 0, 0, 0, 0);
        for (int i = 0; i < 11; i++) {
            due.is("event(" + i + ", 0)", x.event(i, 0), NONE);
            due.is("trouble(" + i + ", 0)", x.trouble(i, 0), NONE);
        }
        LifecycleEngine empty = new LifecycleEngine();
        for (int kind = 0; kind <= 3; kind++) {
            empty.method(0, kind, 1, 1, 1);
        }
        due.is("run without a test", empty.run(0, 0, 0), 0);
        due.counts(empty, 1, 0, 0, 0, 0, 0, 0, 0, 0, 0, 0);
        empty.mark(0, 0, true);
        due.is("run of node 0, disabled", empty.run(0, 0, 0), 0);
        due.is("events", empty.count(1), 0);
    }

    private static void timeStartsAtZero() {
        due.sentence("TIME is 0 at the beginning of a run");
        LifecycleEngine x = oneTest(1, 50);
        x.method(1, 4, 0, 0, 50);
        for (int times = 0; times < 3; times++) {
            x.run(0, 0, 0);
            due.is("time of the first event", x.event(0, 3), 0);
            due.is("time of the last event", x.event(3, 3), 50);
            due.is("time at the end", x.count(8), 50);
        }
    }

    private static void resultZeroJoinsNothing() {
        due.sentence("if its RESULT isn't 0, its CODE joins the list");
        for (int kind = 0; kind <= 4; kind++) {
            LifecycleEngine x = oneTest(1, 50);
            int node = kind == 4 ? 1 : 0;
            x.method(node, kind, 0, 99, 50);
            due.is("run", x.run(0, 0, 0), 0);
            due.counts(x, 2, 4, 1, 0, 0, 0, 0, 1, 50, kind == 4 ? 1 : 2, 1);
            for (int i = 0; i < 4; i++) {
                due.troubles(x, i);
            }
            x.method(node, kind, 1, 0, 50);
            due.is("run with code 0", x.run(0, 0, 0), 1);
            due.is("code 0 has joined", x.trouble(kind == 0 ? 1 : kind == 3 ? 3 : 2, 0), 0);
        }
    }

    private static void lengthAboveDeadline() {
        due.sentence("a body whose LENGTH is above the test's DEADLINE");
        for (int deadline : new int[] {1, 2, 25, 49, 50}) {
            for (int length = 0; length <= 50; length++) {
                LifecycleEngine x = oneTest(1, deadline);
                x.method(1, 4, 2, 7, length);
                boolean late = length > deadline;
                due.is("run", x.run(0, 0, 0), late ? 1 : 0);
                due.event(x, 2, 2, 1, 0, Math.min(length, deadline), late ? 1 : 2, late ? 100 : 7, 0, 1);
                due.troubles(x, 2, late ? 100 : 7);
                due.is("calls", x.count(9), 1);
            }
        }
    }

    private static void lateBodyDoesNotGiveUp() {
        due.sentence("the DEADLINE is added to TIME, and CODE 100 joins, not giving up");
        for (int result = 0; result <= 2; result++) {
            for (int kind = 4; kind <= 6; kind++) {
                LifecycleEngine x = oneTest(3, 10);
                x.method(0, 2, 2, 9, 0);
                x.method(1, kind, result, 7, 11);
                due.is("run", x.run(0, 0, 0), 1);
                int i = 2 + 2 * (kind - 4);
                due.event(x, i, 2, 1, kind - 4, 10, 1, 100, 1, kind - 3);
                due.troubles(x, i, 100, 9);
                due.counts(x, 2, 8, 0, 1, 2, 0, 0, 3, 10, 6, 1);
            }
        }
    }

    private static void lateBodiesAddUp() {
        due.sentence("the DEADLINE is added to TIME");
        LifecycleEngine x = oneTest(3, 50);
        x.test(0, 1, 3, 1);
        for (int kind = 4; kind <= 6; kind++) {
            x.method(1, kind, 0, 0, 50);
            x.method(2, kind, 0, 0, 2);
        }
        x.method(0, 3, 0, 0, 50);
        x.run(0, 0, 0);
        for (int round = 0; round <= 2; round++) {
            due.is("time of a body in time", x.event(2 + 2 * round, 3), 50 * (round + 1));
            due.is("time of a late body", x.event(8 + 2 * round, 3), 150 + round + 1);
        }
        due.is("time at the end", x.count(8), 203);
    }

    private static void onlyBodiesAreCut() {
        due.sentence("But for a body");
        LifecycleEngine x = oneTest(1, 1);
        for (int kind = 0; kind <= 3; kind++) {
            x.method(0, kind, 0, 0, 50);
        }
        due.is("run", x.run(0, 0, 0), 0);
        due.is("time", x.count(8), 200);
    }

    private static void statusOfList() {
        due.sentence("0 SUCCESS if it is empty, 2 ABORTED if its first trouble gave up, else 1 FAILED");
        for (int first = 0; first <= 2; first++) {
            for (int second = 0; second <= 2; second++) {
                LifecycleEngine x = oneTest(1, 50);
                x.method(1, 4, first, 11, 0);
                x.method(0, 2, second, 22, 0);
                int status = first != 0 ? first : second;
                int code = first != 0 ? 11 : second != 0 ? 22 : -1;
                due.is("run", x.run(0, 0, 0), status == 1 ? 1 : 0);
                due.event(x, 2, 2, 1, 0, 0, status, code, first != 0 && second != 0 ? 1 : 0, 1);
                for (int what = 0; what <= 2; what++) {
                    due.is("rounds of status " + what, x.count(2 + what), what == status ? 1 : 0);
                }
                x.method(1, 4, 0, 0, 0);
                x.without(0, 2);
                x.method(0, 0, first, 11, 0);
                x.method(0, 3, second, 22, 0);
                due.is("run", x.run(0, 0, 0), status == 1 ? 1 : 0);
                int last = first == 0 ? 3 : 1;
                due.event(x, last, 2, 0, 0, 0, status, code, first != 0 && second != 0 ? 1 : 0, 0);
            }
        }
    }

    private static void instancesStartAtOne() {
        due.sentence("INSTANCES are numbered 1, 2, .. in a run as they are made");
        LifecycleEngine x = new LifecycleEngine();
        x.container(0, 0, true);
        x.test(1, 0, 2, 1);
        for (int times = 0; times < 3; times++) {
            x.run(0, 0, 0);
            due.is("shared, first round", x.event(3, 7), 1);
            due.is("shared, second round", x.event(5, 7), 1);
            due.is("its own", x.event(6, 7), 1);
            due.is("made", x.count(7), 3);
        }
    }

    private static void disabledIsSkipped() {
        due.sentence("it's DISABLED .. : the event SKIPPED, and that is all");
        for (int node = 0; node <= 3; node++) {
            LifecycleEngine x = ladder();
            for (int kind = 0; kind <= 3; kind++) {
                x.method(node, kind, 1, 1, 1);
            }
            x.mark(node, 0, true);
            due.is("run", x.run(0, 0, 0), 0);
            due.plain(x, node, 3, node, 0, 0);
            due.counts(x, 8, 1 + 4 * node, node, 0, 0, 1, 0, node * (node + 1) / 2, 0, node, 4);
        }
        LifecycleEngine x = oneTest(3, 50);
        x.method(1, 4, 1, 1, 1);
        x.mark(1, 0, true);
        due.is("run", x.run(0, 0, 1), 0);
        due.plain(x, 1, 3, 1, 0, 0);
        due.counts(x, 2, 3, 0, 0, 0, 1, 0, 0, 0, 0, 1);
    }

    /** Four tests of three rounds, all of which fail. */
    private static LifecycleEngine twelveFailures() {
        LifecycleEngine x = new LifecycleEngine();
        for (int node = 1; node <= 4; node++) {
            x.test(0, 0, 3, 50);
            for (int kind = 4; kind <= 6; kind++) {
                x.method(node, kind, 1, 1, 1);
            }
        }
        return x;
    }

    private static void breakOfZero() {
        due.sentence("and BREAK is above 0");
        LifecycleEngine x = twelveFailures();
        x.run(0, 0, 0);
        due.counts(x, 5, 26, 0, 12, 0, 0, 0, 12, 12, 12, 4);
    }

    private static void breakIsReached() {
        due.sentence("FAILED tests (rounds) so far are BREAK or more");
        for (int broken = 1; broken <= 9; broken++) {
            LifecycleEngine x = twelveFailures();
            due.is("run", x.run(0, 0, broken), 1);
            due.is("failed with break " + broken, x.count(3), broken);
            due.is("calls with break " + broken, x.count(9), broken);
            // The tests behind the one that reached it, and the rounds that are left of this one.
            int behind = 4 - (broken + 2) / 3;
            due.is("skipped with break " + broken, x.count(5), behind + (broken % 3 == 0 ? 0 : 1));
        }
    }

    private static void breakBetweenRounds() {
        due.sentence("from the second on, before it, BREAK is looked at as above (SKIPPED, and the rounds left are not done)");
        LifecycleEngine x = twelveFailures();
        x.run(0, 0, 1);
        due.event(x, 2, 2, 1, 0, 1, 1, 1, 0, 1);
        due.plain(x, 3, 3, 1, 1, 1);
        due.nodes(x, 0, 1, 1, 1, 2, 3, 4, 0);
        x.run(0, 0, 2);
        due.plain(x, 5, 3, 1, 2, 2);
        due.nodes(x, 0, 1, 1, 1, 1, 1, 2, 3, 4, 0);
        due.sentence("the round (0 for .. SKIPPED by being disabled or for round 0)");
        x.run(0, 0, 3);
        due.plain(x, 7, 3, 2, 0, 3);
        due.nodes(x, 0, 1, 1, 1, 1, 1, 1, 2, 3, 4, 0);
        due.sentence("from the second on .. (a disabled test is skipped once)");
        x.mark(2, 0, true);
        x.run(0, 0, 4);
        due.plain(x, 7, 3, 2, 0, 3);
        due.plain(x, 10, 3, 3, 1, 4);
        due.nodes(x, 0, 1, 1, 1, 1, 1, 1, 2, 3, 3, 3, 4, 0);
    }

    private static void breakSkipsContainers() {
        due.sentence("BREAK or more .. : the event SKIPPED, and that is all (a container; those that are open are closed)");
        LifecycleEngine x = new LifecycleEngine();
        x.container(0, 0, true);
        x.test(1, 0, 1, 50);
        x.container(1, 1, true);
        x.test(3, 0, 3, 50);
        x.test(1, 2, 3, 50);
        x.container(0, 1, true);
        x.test(6, 0, 3, 50);
        x.container(0, 2, true);
        x.method(2, 4, 1, 1, 3);
        for (int kind = 0; kind <= 3; kind++) {
            x.method(3, kind, 1, 2, 50);
            x.method(6, kind, 1, 2, 50);
        }
        x.method(1, 3, 2, 4, 5);
        due.is("run", x.run(0, 0, 1), 1);
        due.nodes(x, 0, 1, 2, 2, 3, 5, 1, 6, 0);
        due.plain(x, 4, 3, 3, 0, 3);
        due.plain(x, 5, 3, 5, 0, 3);
        due.event(x, 6, 2, 1, 0, 8, 2, 4, 0, 1);
        due.plain(x, 7, 3, 6, 0, 8);
        due.counts(x, 9, 9, 0, 1, 0, 3, 1, 2, 8, 2, 4);
    }

    private static void breakCountsFailedRounds() {
        due.sentence("FAILED tests (rounds): rounds that were ABORTED and containers that FAILED are none");
        LifecycleEngine x = new LifecycleEngine();
        x.container(0, 0, false);
        x.test(1, 0, 3, 50);
        x.container(0, 1, false);
        x.test(3, 0, 1, 50);
        x.test(0, 2, 1, 50);
        for (int kind = 4; kind <= 6; kind++) {
            x.method(2, kind, 2, 1, 0);
        }
        x.method(1, 3, 1, 1, 0);
        x.method(3, 0, 1, 1, 0);
        due.is("run", x.run(0, 0, 1), 1);
        due.counts(x, 6, 14, 1, 0, 3, 0, 2, 7, 0, 6, 3);
        due.sentence("FAILED tests (rounds) so far: those of this run");
        x.method(2, 6, 1, 1, 0);
        x.run(0, 0, 0);
        due.is("failed", x.count(3), 1);
        x.run(0, 0, 2);
        due.is("skipped", x.count(5), 0);
        due.is("failed", x.count(3), 1);
        x.run(0, 0, 1);
        due.is("skipped", x.count(5), 2);
        due.is("failed", x.count(3), 1);
    }

    private static void openAllInTrouble() {
        due.sentence("If the list is empty then: its children are done in order");
        for (int result = 1; result <= 2; result++) {
            for (int node = 0; node <= 3; node++) {
                LifecycleEngine x = ladder();
                x.method(node, 0, result, 30 + node, 5);
                due.is("run", x.run(0, 0, 0), 2 - result);
                due.event(x, node + 1, 2, node, 0, 5, result, 30 + node, 0, 0);
                due.counts(x, 8, 2 + 4 * node, node, 0, 0, 0, 1, node * (node + 1) / 2, 5, 1 + node, 4);
            }
        }
    }

    private static void closeAllInTrouble() {
        due.sentence("Then its CLOSE ALL is called, if it has one");
        LifecycleEngine x = ladder();
        for (int node = 0; node <= 3; node++) {
            x.method(node, 0, node == 3 ? 2 : 0, 40 + node, 1);
            x.method(node, 3, 1, 50 + node, 10);
        }
        due.is("run", x.run(0, 0, 0), 1);
        due.event(x, 4, 2, 3, 0, 14, 2, 43, 1, 0);
        due.troubles(x, 4, 43, 53);
        due.event(x, 7, 2, 2, 0, 24, 1, 52, 0, 0);
        due.event(x, 10, 2, 1, 0, 34, 1, 51, 0, 0);
        due.event(x, 13, 2, 0, 0, 44, 1, 50, 0, 0);
        due.counts(x, 8, 14, 3, 0, 0, 0, 4, 6, 44, 11, 4);
    }

    private static void newListEachTime() {
        due.sentence("A new list");
        LifecycleEngine x = oneTest(3, 50);
        x.method(0, 1, 0, 0, 0);
        x.method(1, 4, 2, 1, 0);
        x.method(1, 5, 1, 2, 0);
        x.method(0, 3, 1, 3, 0);
        for (int times = 0; times < 2; times++) {
            x.run(0, 0, 0);
            due.troubles(x, 2, 1);
            due.troubles(x, 4, 2);
            due.troubles(x, 6);
            due.troubles(x, 7, 3);
            due.counts(x, 2, 8, 1, 1, 1, 0, 1, 3, 0, 7, 1);
        }
    }

    /** The test 4 in four containers with OPEN EACH (length 1) and CLOSE EACH (length 10); its body has length 5. */
    private static LifecycleEngine deep() {
        LifecycleEngine x = new LifecycleEngine();
        for (int node = 0; node < 3; node++) {
            x.container(node, 0, false);
        }
        x.test(3, 0, 1, 50);
        for (int node = 0; node <= 3; node++) {
            x.method(node, 1, 0, 0, 1);
            x.method(node, 2, 0, 0, 10);
        }
        x.method(4, 4, 0, 0, 5);
        return x;
    }

    private static void openEachInTrouble() {
        due.sentence("after the first with which the list is not empty the further ones are not reached");
        for (int result = 1; result <= 2; result++) {
            for (int bad = 0; bad <= 3; bad++) {
                LifecycleEngine x = deep();
                for (int node = bad; node <= 3; node++) {
                    x.method(node, 1, result, 70 + node, 1);
                }
                due.is("run", x.run(0, 0, 0), 2 - result);
                due.event(x, 5, 2, 4, 0, 11 * (bad + 1), result, 70 + bad, 0, 4);
                due.is("calls", x.count(9), 2 * (bad + 1));
            }
        }
        due.sentence("If all were reached and the list is empty: the body of the round");
        LifecycleEngine x = deep();
        x.run(0, 0, 0);
        due.event(x, 5, 2, 4, 0, 49, 0, -1, 0, 4);
        due.is("calls", x.count(9), 9);
    }

    private static void closeEachOfTheReached() {
        due.sentence("for the containers that were reached, from the last one back to node 0: CLOSE EACH");
        for (int bad = 0; bad <= 3; bad++) {
            LifecycleEngine x = deep();
            for (int node = 0; node <= 3; node++) {
                x.method(node, 2, 2, 80 + node, 1);
            }
            x.method(bad, 1, 1, 90, 1);
            x.run(0, 0, 0);
            due.is("first", x.trouble(5, 0), 90);
            due.is("how many more", x.event(5, 6), bad + 1);
            for (int k = 1; k <= 3; k++) {
                due.is("trouble " + k, x.trouble(5, k), k <= bad + 1 ? 80 + bad + 1 - k : NONE);
            }
        }
        due.sentence("reached, though it has no OPEN EACH");
        LifecycleEngine x = deep();
        for (int node = 0; node <= 3; node++) {
            x.without(node, 1);
            x.method(node, 2, 1, 80 + node, 1);
        }
        x.run(0, 0, 0);
        due.troubles(x, 5, 83, 82, 81, 80);
    }

    private static void roundsWithoutMethods() {
        due.sentence("OPEN EACH is called if there is one .. CLOSE EACH is called if there is one");
        LifecycleEngine x = ladder();
        x.run(0, 0, 0);
        due.counts(x, 8, 16, 4, 0, 0, 0, 0, 10, 0, 4, 4);
    }

    private static void sharedAtEveryDepth() {
        due.sentence("For each container .. that is not SHARED, an instance is made");
        for (int mask = 0; mask <= 7; mask++) {
            LifecycleEngine x = new LifecycleEngine();
            int shared = Integer.bitCount(mask);
            for (int node = 0; node < 3; node++) {
                x.container(node, 0, (mask >> node & 1) != 0);
            }
            x.test(3, 0, 2, 1);
            x.run(0, 0, 0);
            due.is("made", x.count(7), shared + 2 * (4 - shared));
            boolean lastShared = (mask & 4) != 0;
            due.is("first round", x.event(5, 7), lastShared ? shared : 4);
            due.is("second round", x.event(7, 7), lastShared ? shared : 8 - shared);
            int made = 0;
            for (int node = 1; node <= 3; node++) {
                boolean isShared = (mask >> node - 1 & 1) != 0;
                made += isShared ? 1 : 0;
                due.is("container " + node, x.event(11 - node, 7), isShared ? made : 0);
            }
            due.is("node 0", x.event(11, 7), 0);
        }
    }

    private static void answerIsOne() {
        due.sentence("Answers 1 if a FINISHED event of it has a STATUS FAILED, else 0");
        LifecycleEngine x = ladder();
        due.is("success", x.run(0, 0, 0), 0);
        for (int node = 4; node <= 7; node++) {
            x.method(node, 4, 1, 1, 0);
            due.is("a failed round", x.run(0, 0, 0), 1);
            x.method(node, 4, 2, 1, 0);
            due.is("an aborted round", x.run(0, 0, 0), 0);
            x.method(node, 4, 0, 1, 0);
            due.is("success again", x.run(0, 0, 0), 0);
        }
        for (int node = 0; node <= 3; node++) {
            x.method(node, 3, 1, 1, 0);
            due.is("a failed container", x.run(0, 0, 0), 1);
            due.is("no failed round", x.count(3), 0);
            x.method(node, 3, 2, 1, 0);
            due.is("an aborted container", x.run(0, 0, 0), 0);
            x.without(node, 3);
        }
        x.method(4, 4, 2, 1, 0);
        x.method(5, 4, 1, 1, 0);
        due.is("one aborted, one failed", x.run(0, 0, 0), 1);
        x.mark(5, 1, false);
        due.is("the failed one isn't chosen", x.run(0, 1, 0), 0);
        x.mark(5, 0, true);
        due.is("the failed one is disabled", x.run(0, 0, 0), 0);
    }

    private static void lastCallOfAnObject() {
        due.sentence("An object is used for at most 512 calls after it has been made");
        LifecycleEngine x = new LifecycleEngine();
        for (int call = 1; call <= 23; call++) {
            due.is("test", x.test(0, 0, 3, 50), call);
        }
        for (int call = 24; call <= 510; call++) {
            due.is("run " + call, x.run(0, 0, 0), 0);
        }
        due.is("the call before the last", x.event(139, 7), 0);
        due.is("the last call", x.count(7), 69);
    }
}
