/**
 * Runs a tree of containers and tests with their lifecycle methods and writes down every event.
 * The words in capitals in the comments are the terms of the document.
 */
public final class LifecycleEngine {
    public static final int DONE = 0;
    public static final int REFUSED = -1;
    public static final int FULL = -2;
    public static final int NONE = -1000;

    private static final int MAX_NODES = 24;
    private static final int MAX_DEPTH = 3;
    private static final int MAX_ORDER = 99;
    private static final int MAX_TAGS = 255;
    private static final int MAX_ROUNDS = 3;
    private static final int MAX_DEADLINE = 50;
    private static final int MAX_RESULT = 2;
    private static final int MAX_CODE = 99;
    private static final int MAX_LENGTH = 50;
    private static final int MAX_BREAK = 9;
    private static final int KEPT_EVENTS = 150;
    private static final int KEPT_TROUBLES = 4;

    private static final int ROOT = 0;
    private static final int NOBODY = -1;

    private static final int OPEN_ALL = 0;
    private static final int OPEN_EACH = 1;
    private static final int CLOSE_EACH = 2;
    private static final int CLOSE_ALL = 3;
    private static final int BODY = 4;
    private static final int KINDS = BODY + MAX_ROUNDS;

    private static final int RETURNS = 0;
    private static final int GIVES_UP = 2;

    private static final int CODE_TOO_LONG = 100;
    private static final int CODE_OF_NO_TROUBLE = -1;

    private static final int SUCCESS = 0;
    private static final int FAILED = 1;
    private static final int ABORTED = 2;
    private static final int STATUSES = 3;

    private static final int STARTED = 1;
    private static final int FINISHED = 2;
    private static final int SKIPPED = 3;

    private static final int EVENT_KIND = 0;
    private static final int EVENT_NODE = 1;
    private static final int EVENT_ROUND = 2;
    private static final int EVENT_TIME = 3;
    private static final int EVENT_STATUS = 4;
    private static final int EVENT_CODE = 5;
    private static final int EVENT_MORE = 6;
    private static final int EVENT_INSTANCE = 7;
    private static final int EVENT_FIELDS = 8;

    private final Tree tree;
    private final Methods methods;
    private final Choice choice;
    private final Journal journal;
    private final Runner runner;

    public LifecycleEngine() {
        tree = new Tree();
        methods = new Methods();
        choice = new Choice(tree);
        journal = new Journal();
        runner = new Runner(tree, methods, choice, journal);
    }

    public int container(int parent, int order, boolean shared) {
        if (!tree.isContainer(parent) || tree.depthOf(parent) >= MAX_DEPTH || !isWithin(order, 0, MAX_ORDER)) {
            return REFUSED;
        }
        if (tree.isFull()) {
            return FULL;
        }
        return tree.addContainer(parent, order, shared);
    }

    public int test(int parent, int order, int rounds, int deadline) {
        if (!tree.isContainer(parent) || !isWithin(order, 0, MAX_ORDER)
                || !isWithin(rounds, 1, MAX_ROUNDS) || !isWithin(deadline, 1, MAX_DEADLINE)) {
            return REFUSED;
        }
        if (tree.isFull()) {
            return FULL;
        }
        int node = tree.addTest(parent, order, rounds, deadline);
        methods.giveBodies(node, rounds);
        return node;
    }

    public int mark(int node, int tags, boolean disabled) {
        if (!tree.isNode(node) || !isWithin(tags, 0, MAX_TAGS)) {
            return REFUSED;
        }
        tree.setMarks(node, tags, disabled);
        return DONE;
    }

    public int method(int node, int kind, int result, int code, int length) {
        if (!tree.mayHave(node, kind) || !isWithin(result, 0, MAX_RESULT)
                || !isWithin(code, 0, MAX_CODE) || !isWithin(length, 0, MAX_LENGTH)) {
            return REFUSED;
        }
        methods.give(node, kind, result, code, length);
        return DONE;
    }

    public int without(int node, int kind) {
        if (!tree.isContainer(node) || !tree.mayHave(node, kind)) {
            return REFUSED;
        }
        int place = Methods.placeOf(node, kind);
        if (!methods.isThere(place)) {
            return REFUSED;
        }
        methods.takeAt(place);
        return DONE;
    }

    public int run(int wanted, int unwanted, int broken) {
        if (!isWithin(wanted, 0, MAX_TAGS) || !isWithin(unwanted, 0, MAX_TAGS) || !isWithin(broken, 0, MAX_BREAK)) {
            return REFUSED;
        }
        choice.choose(wanted, unwanted);
        journal.clear();
        runner.reset(broken);
        runner.doNode(ROOT, 0);
        return journal.hasFailure() ? 1 : 0;
    }

    public int event(int i, int what) {
        return journal.fieldOf(i, what);
    }

    public int trouble(int i, int k) {
        return journal.codeOf(i, k);
    }

    public int count(int what) {
        switch (what) {
            case 0: return tree.size();
            case 1: return journal.events();
            case 2: return journal.roundsWith(SUCCESS);
            case 3: return journal.roundsWith(FAILED);
            case 4: return journal.roundsWith(ABORTED);
            case 5: return journal.skips();
            case 6: return journal.troubledContainers();
            case 7: return runner.instancesMade();
            case 8: return runner.time();
            case 9: return runner.calls();
            case 10: return choice.chosenTests();
            default: return NONE;
        }
    }

    private static boolean isWithin(int value, int low, int high) {
        return low <= value && value <= high;
    }

    /** The NODES, by number. A parent's number is always below those of its children. */
    private static final class Tree {
        private final int[] parents;
        private final int[] depths;
        private final int[] orders;
        private final int[] tags;
        private final boolean[] disabled;
        private final boolean[] shared;
        /** 0 for a container. */
        private final int[] rounds;
        private final int[] deadlines;
        private int size;

        Tree() {
            parents = new int[MAX_NODES];
            depths = new int[MAX_NODES];
            orders = new int[MAX_NODES];
            tags = new int[MAX_NODES];
            disabled = new boolean[MAX_NODES];
            shared = new boolean[MAX_NODES];
            rounds = new int[MAX_NODES];
            deadlines = new int[MAX_NODES];
            parents[ROOT] = NOBODY;
            size = 1;
        }

        int size() {
            return size;
        }

        boolean isFull() {
            return size >= MAX_NODES;
        }

        boolean isNode(int node) {
            return isWithin(node, 0, size - 1);
        }

        boolean isContainer(int node) {
            return isNode(node) && rounds[node] == 0;
        }

        boolean mayHave(int node, int kind) {
            if (!isNode(node)) {
                return false;
            }
            if (rounds[node] == 0) {
                return isWithin(kind, OPEN_ALL, CLOSE_ALL);
            }
            return isWithin(kind, BODY, BODY + rounds[node] - 1);
        }

        int addContainer(int parent, int order, boolean isShared) {
            int node = addNode(parent, order);
            shared[node] = isShared;
            return node;
        }

        int addTest(int parent, int order, int roundCount, int deadline) {
            int node = addNode(parent, order);
            rounds[node] = roundCount;
            deadlines[node] = deadline;
            return node;
        }

        private int addNode(int parent, int order) {
            int node = size;
            parents[node] = parent;
            depths[node] = depths[parent] + 1;
            orders[node] = order;
            size++;
            return node;
        }

        void setMarks(int node, int newTags, boolean isDisabled) {
            tags[node] = newTags;
            disabled[node] = isDisabled;
        }

        int parentOf(int node) {
            return parents[node];
        }

        int depthOf(int node) {
            return depths[node];
        }

        int tagsOf(int node) {
            return tags[node];
        }

        boolean isDisabled(int node) {
            return disabled[node];
        }

        boolean isShared(int node) {
            return shared[node];
        }

        int roundsOf(int node) {
            return rounds[node];
        }

        int deadlineOf(int node) {
            return deadlines[node];
        }

        /** The child that follows the given one, or the first one after NOBODY; NOBODY after the last. */
        int childAfter(int container, int child) {
            int least = child == NOBODY ? NOBODY : rankOf(child);
            int next = NOBODY;
            for (int node = container + 1; node < size; node++) {
                if (parents[node] == container && rankOf(node) > least
                        && (next == NOBODY || rankOf(node) < rankOf(next))) {
                    next = node;
                }
            }
            return next;
        }

        /** One number for ORDER and number, so that no two nodes are equal. */
        private int rankOf(int node) {
            return orders[node] * MAX_NODES + node;
        }

        /** Writes the containers from node 0 down to the given one, each at the place of its DEPTH. */
        void writePath(int container, int[] path) {
            int node = container;
            for (int depth = depths[container]; depth >= 0; depth--) {
                path[depth] = node;
                node = parents[node];
            }
        }
    }

    /** The METHODS of all nodes, each at a place of its own; only for kinds that the node may have. */
    private static final class Methods {
        private final boolean[] there;
        private final int[] results;
        private final int[] codes;
        private final int[] lengths;

        Methods() {
            there = new boolean[MAX_NODES * KINDS];
            results = new int[MAX_NODES * KINDS];
            codes = new int[MAX_NODES * KINDS];
            lengths = new int[MAX_NODES * KINDS];
        }

        static int placeOf(int node, int kind) {
            return node * KINDS + kind;
        }

        void giveBodies(int node, int rounds) {
            for (int round = 0; round < rounds; round++) {
                give(node, BODY + round, RETURNS, 0, 0);
            }
        }

        void give(int node, int kind, int result, int code, int length) {
            int place = placeOf(node, kind);
            there[place] = true;
            results[place] = result;
            codes[place] = code;
            lengths[place] = length;
        }

        void takeAt(int place) {
            there[place] = false;
        }

        boolean isThere(int place) {
            return there[place];
        }

        int resultAt(int place) {
            return results[place];
        }

        int codeAt(int place) {
            return codes[place];
        }

        int lengthAt(int place) {
            return lengths[place];
        }
    }

    /** Which nodes are CHOSEN in the latest run. */
    private static final class Choice {
        private final Tree tree;
        private final int[] allTags;
        private final boolean[] chosen;
        private int chosenTests;

        Choice(Tree tree) {
            this.tree = tree;
            allTags = new int[MAX_NODES];
            chosen = new boolean[MAX_NODES];
        }

        void choose(int wanted, int unwanted) {
            gatherTags();
            chosenTests = 0;
            for (int node = 0; node < tree.size(); node++) {
                chosen[node] = !tree.isContainer(node) && suits(allTags[node], wanted, unwanted);
                if (chosen[node]) {
                    chosenTests++;
                }
            }
            chooseContainers();
        }

        /** Rising numbers meet every parent before its children. */
        private void gatherTags() {
            allTags[ROOT] = tree.tagsOf(ROOT);
            for (int node = ROOT + 1; node < tree.size(); node++) {
                allTags[node] = tree.tagsOf(node) | allTags[tree.parentOf(node)];
            }
        }

        /** Falling numbers meet every child before its parent. */
        private void chooseContainers() {
            for (int node = tree.size() - 1; node > ROOT; node--) {
                if (chosen[node]) {
                    chosen[tree.parentOf(node)] = true;
                }
            }
        }

        private static boolean suits(int tags, int wanted, int unwanted) {
            return (wanted == 0 || (tags & wanted) != 0) && (tags & unwanted) == 0;
        }

        boolean isChosen(int node) {
            return chosen[node];
        }

        int chosenTests() {
            return chosenTests;
        }
    }

    /** A list of TROUBLES: all are counted, but only the CODES that can be asked for are held. */
    private static final class Troubles {
        private final int[] codes;
        private int size;
        private boolean firstGaveUp;

        Troubles() {
            codes = new int[KEPT_TROUBLES];
        }

        void clear() {
            size = 0;
            firstGaveUp = false;
        }

        void join(int code, boolean gaveUp) {
            if (size == 0) {
                firstGaveUp = gaveUp;
            }
            if (size < KEPT_TROUBLES) {
                codes[size] = code;
            }
            size++;
        }

        boolean isEmpty() {
            return size == 0;
        }

        int status() {
            if (size == 0) {
                return SUCCESS;
            }
            return firstGaveUp ? ABORTED : FAILED;
        }

        int firstCode() {
            return size == 0 ? CODE_OF_NO_TROUBLE : codes[0];
        }

        int sizeBehindFirst() {
            return size == 0 ? 0 : size - 1;
        }

        /** The CODE of trouble k, k below KEPT_TROUBLES; NONE if there are not so many. */
        int codeOrNone(int k) {
            return k < size ? codes[k] : NONE;
        }
    }

    /** The EVENTS of the latest run and what is counted of them. */
    private static final class Journal {
        private final int[] fields;
        private final int[] codes;
        private final int[] roundsByStatus;
        private int events;
        private int skips;
        private int troubledContainers;
        private boolean failure;

        Journal() {
            fields = new int[KEPT_EVENTS * EVENT_FIELDS];
            codes = new int[KEPT_EVENTS * KEPT_TROUBLES];
            roundsByStatus = new int[STATUSES];
        }

        void clear() {
            events = 0;
            skips = 0;
            troubledContainers = 0;
            failure = false;
            for (int status = 0; status < STATUSES; status++) {
                roundsByStatus[status] = 0;
            }
        }

        void writeStarted(int node, int round, int time) {
            writeEvent(STARTED, node, round, time);
        }

        void writeSkipped(int node, int round, int time) {
            skips++;
            writeEvent(SKIPPED, node, round, time);
        }

        void writeContainerFinished(int node, int time, Troubles list, int instance) {
            if (!list.isEmpty()) {
                troubledContainers++;
            }
            writeEvent(FINISHED, node, 0, time);
            writeOutcome(list, instance);
        }

        void writeRoundFinished(int node, int round, int time, Troubles list, int instance) {
            roundsByStatus[list.status()]++;
            writeEvent(FINISHED, node, round, time);
            writeOutcome(list, instance);
        }

        private void writeEvent(int kind, int node, int round, int time) {
            if (events < KEPT_EVENTS) {
                int place = events * EVENT_FIELDS;
                fields[place + EVENT_KIND] = kind;
                fields[place + EVENT_NODE] = node;
                fields[place + EVENT_ROUND] = round;
                fields[place + EVENT_TIME] = time;
                // The rows are used again by every run: what an earlier one left here must go.
                for (int what = EVENT_STATUS; what < EVENT_FIELDS; what++) {
                    fields[place + what] = 0;
                }
                for (int k = 0; k < KEPT_TROUBLES; k++) {
                    codes[events * KEPT_TROUBLES + k] = NONE;
                }
            }
            events++;
        }

        /** Completes the event that was written last. */
        private void writeOutcome(Troubles list, int instance) {
            if (list.status() == FAILED) {
                failure = true;
            }
            int latest = events - 1;
            if (!isWithin(latest, 0, KEPT_EVENTS - 1)) {
                return;
            }
            int place = latest * EVENT_FIELDS;
            fields[place + EVENT_STATUS] = list.status();
            fields[place + EVENT_CODE] = list.firstCode();
            fields[place + EVENT_MORE] = list.sizeBehindFirst();
            fields[place + EVENT_INSTANCE] = instance;
            for (int k = 0; k < KEPT_TROUBLES; k++) {
                codes[latest * KEPT_TROUBLES + k] = list.codeOrNone(k);
            }
        }

        private boolean isKept(int event) {
            return isWithin(event, 0, Math.min(events, KEPT_EVENTS) - 1);
        }

        int fieldOf(int event, int what) {
            if (!isKept(event) || !isWithin(what, 0, EVENT_FIELDS - 1)) {
                return NONE;
            }
            return fields[event * EVENT_FIELDS + what];
        }

        int codeOf(int event, int k) {
            if (!isKept(event) || !isWithin(k, 0, KEPT_TROUBLES - 1)) {
                return NONE;
            }
            return codes[event * KEPT_TROUBLES + k];
        }

        int events() {
            return events;
        }

        int skips() {
            return skips;
        }

        int troubledContainers() {
            return troubledContainers;
        }

        int roundsWith(int status) {
            return roundsByStatus[status];
        }

        boolean hasFailure() {
            return failure;
        }
    }

    /** Does the nodes of a RUN. */
    private static final class Runner {
        /** A test's parent may be as deep as MAX_DEPTH. */
        private static final int LEVELS = MAX_DEPTH + 2;

        private final Tree tree;
        private final Methods methods;
        private final Choice choice;
        private final Journal journal;
        /** One list a level: a container's own must outlast those of the nodes in it. */
        private final Troubles[] lists;
        private final int[] path;
        private final int[] instances;
        private int instancesMade;
        private int time;
        private int calls;
        private int breakAt;

        Runner(Tree tree, Methods methods, Choice choice, Journal journal) {
            this.tree = tree;
            this.methods = methods;
            this.choice = choice;
            this.journal = journal;
            lists = new Troubles[LEVELS];
            for (int level = 0; level < LEVELS; level++) {
                lists[level] = new Troubles();
            }
            path = new int[MAX_DEPTH + 1];
            instances = new int[MAX_NODES];
        }

        void reset(int broken) {
            instancesMade = 0;
            time = 0;
            calls = 0;
            breakAt = broken;
        }

        void doNode(int node, int level) {
            if (!isWithin(level, 0, LEVELS - 1) || !choice.isChosen(node)) {
                return;
            }
            if (tree.isDisabled(node) || isBroken()) {
                journal.writeSkipped(node, 0, time);
            } else if (tree.isContainer(node)) {
                doContainer(node, level);
            } else {
                doTest(node, level);
            }
        }

        private boolean isBroken() {
            return breakAt > 0 && journal.roundsWith(FAILED) >= breakAt;
        }

        private void doContainer(int node, int level) {
            journal.writeStarted(node, 0, time);
            if (tree.isShared(node)) {
                makeInstance(node);
            }
            Troubles list = lists[level];
            list.clear();
            callIfThere(node, OPEN_ALL, list);
            if (list.isEmpty()) {
                doChildren(node, level + 1);
            }
            callIfThere(node, CLOSE_ALL, list);
            journal.writeContainerFinished(node, time, list, tree.isShared(node) ? instances[node] : 0);
        }

        private void doChildren(int container, int level) {
            int child = tree.childAfter(container, NOBODY);
            for (int done = 0; done < MAX_NODES && child != NOBODY; done++) {
                doNode(child, level);
                child = tree.childAfter(container, child);
            }
        }

        private void doTest(int node, int level) {
            for (int round = 0; round < tree.roundsOf(node); round++) {
                if (round > 0 && isBroken()) {
                    journal.writeSkipped(node, round, time);
                    return;
                }
                doRound(node, round, lists[level]);
            }
        }

        private void doRound(int node, int round, Troubles list) {
            int parent = tree.parentOf(node);
            int containers = tree.depthOf(node);
            tree.writePath(parent, path);
            journal.writeStarted(node, round, time);
            makeRoundInstances(containers);
            list.clear();
            int reached = openEach(containers, list);
            if (list.isEmpty()) {
                callIfThere(node, BODY + round, list);
            }
            closeEach(reached, list);
            journal.writeRoundFinished(node, round, time, list, instances[parent]);
        }

        private void makeRoundInstances(int containers) {
            for (int depth = 0; depth < containers; depth++) {
                if (!tree.isShared(path[depth])) {
                    makeInstance(path[depth]);
                }
            }
        }

        /** Answers how many containers were reached; the one where the trouble came is one of them. */
        private int openEach(int containers, Troubles list) {
            int reached = 0;
            while (reached < containers && list.isEmpty()) {
                callIfThere(path[reached], OPEN_EACH, list);
                reached++;
            }
            return reached;
        }

        private void closeEach(int reached, Troubles list) {
            for (int depth = reached - 1; depth >= 0; depth--) {
                callIfThere(path[depth], CLOSE_EACH, list);
            }
        }

        private void makeInstance(int container) {
            instancesMade++;
            instances[container] = instancesMade;
        }

        private void callIfThere(int node, int kind, Troubles list) {
            int place = Methods.placeOf(node, kind);
            if (!methods.isThere(place)) {
                return;
            }
            calls++;
            int length = methods.lengthAt(place);
            if (kind >= BODY && length > tree.deadlineOf(node)) {
                time += tree.deadlineOf(node);
                list.join(CODE_TOO_LONG, false);
                return;
            }
            time += length;
            int result = methods.resultAt(place);
            if (result != RETURNS) {
                list.join(methods.codeAt(place), result == GIVES_UP);
            }
        }

        int instancesMade() {
            return instancesMade;
        }

        int time() {
            return time;
        }

        int calls() {
            return calls;
        }
    }
}
