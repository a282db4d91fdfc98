import java.util.Random;

/** All promises: long runs of calls by chance, from fixed seeds, compared with the model. */
public final class ModelTest {
    private static final int OBJECTS = 600;
    private static final int CALLS = 250;
    private static final Due due = new Due();

    private final Random random;
    private final String name;
    private final LifecycleEngine engine = new LifecycleEngine();
    private final Model model = new Model();
    /** How many of a hundred methods don't return. */
    private final int troubled;

    private ModelTest(int seed) {
        random = new Random(seed);
        name = "seed " + seed + ": ";
        troubled = new int[] {5, 20, 60}[seed % 3];
    }

    public static void main(String[] args) {
        for (int seed = 0; seed < OBJECTS; seed++) {
            new ModelTest(seed).callAll();
        }
        due.end();
    }

    private void callAll() {
        for (int call = 0; call < CALLS; call++) {
            int dice = random.nextInt(100);
            if (dice < 10) {
                callContainer();
            } else if (dice < 22) {
                callTest();
            } else if (dice < 32) {
                callMark();
            } else if (dice < 72) {
                callMethod();
            } else if (dice < 78) {
                callWithout();
            } else {
                callRun();
            }
            due.is(name + "nodes", engine.count(0), model.count(0));
        }
    }

    private boolean chance(int percent) {
        return random.nextInt(100) < percent;
    }

    /** Mostly from low to high, at times one beside it or far away. */
    private int number(int low, int high) {
        if (chance(3)) {
            int[] beside = {low - 1, high + 1, Integer.MIN_VALUE, Integer.MAX_VALUE};
            return beside[random.nextInt(4)];
        }
        return low + random.nextInt(high - low + 1);
    }

    private int node() {
        return number(0, engine.count(0) - 1);
    }

    private int few(int low, int high) {
        return chance(70) ? low + random.nextInt(3) : number(low, high);
    }

    private int mask() {
        return chance(40) ? 0 : chance(90) ? 1 << random.nextInt(5) : number(0, 255);
    }

    private void callContainer() {
        int parent = node();
        int order = few(0, 99);
        boolean shared = chance(50);
        due.is(name + "container", engine.container(parent, order, shared), model.container(parent, order, shared));
    }

    private void callTest() {
        int parent = node();
        int order = few(0, 99);
        int rounds = number(1, 3);
        int deadline = number(1, 50);
        due.is(name + "test", engine.test(parent, order, rounds, deadline),
                model.test(parent, order, rounds, deadline));
    }

    private void callMark() {
        int node = node();
        int tags = mask();
        boolean disabled = chance(15);
        due.is(name + "mark", engine.mark(node, tags, disabled), model.mark(node, tags, disabled));
    }

    private void callMethod() {
        int node = node();
        int kind = number(0, 6);
        int result = chance(troubled) ? number(1, 2) : 0;
        int code = number(0, 99);
        int length = chance(60) ? random.nextInt(5) : number(0, 50);
        due.is(name + "method", engine.method(node, kind, result, code, length),
                model.method(node, kind, result, code, length));
    }

    private void callWithout() {
        int node = node();
        int kind = number(0, 6);
        due.is(name + "without", engine.without(node, kind), model.without(node, kind));
    }

    private void callRun() {
        int wanted = chance(50) ? 0 : mask();
        int unwanted = chance(50) ? 0 : mask();
        int broken = chance(50) ? 0 : number(0, 9);
        due.is(name + "run", engine.run(wanted, unwanted, broken), model.run(wanted, unwanted, broken));
        compareGetters();
    }

    private void compareGetters() {
        for (int what = -1; what <= 11; what++) {
            due.is(name + "count " + what, engine.count(what), model.count(what));
        }
        for (int i = -1; i <= model.count(1); i++) {
            for (int what = -1; what <= 8; what++) {
                due.is(name + "event " + i + " " + what, engine.event(i, what), model.event(i, what));
            }
            for (int k = -1; k <= 5; k++) {
                due.is(name + "trouble " + i + " " + k, engine.trouble(i, k), model.trouble(i, k));
            }
        }
    }
}
