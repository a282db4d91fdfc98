import java.util.Random;

/** All promises: long runs of calls by chance, from fixed seeds, compared with the model. */
public final class ModelTest {
    private static final int OBJECTS = 6000;
    /** Nothing is promised about later calls. */
    private static final int CALLS_OF_AN_OBJECT = 512;
    private static final Due due = new Due();

    private final Random random;
    private final String name;
    private final LifecycleEngine engine = new LifecycleEngine();
    private final Model model = new Model();
    /** How many of a hundred methods don't return. */
    private final int troubled;
    private int changesLeft;
    private int looksLeft;

    private ModelTest(int seed) {
        random = new Random(seed);
        name = "seed " + seed + ": ";
        troubled = new int[] {5, 20, 60}[seed % 3];
    }

    public static void main(String[] args) {
        for (int seed = 0; seed < OBJECTS; seed++) {
            new ModelTest(seed).callAll();
        }
        due.end();
    }

    /** The tree grows first; then come runs, what they left behind is looked at, and the tree changes. */
    private void callAll() {
        changesLeft = 30 + random.nextInt(90);
        for (int call = 0; call < CALLS_OF_AN_OBJECT; call++) {
            if (looksLeft > 0) {
                looksLeft--;
                look();
            } else if (changesLeft > 0) {
                changesLeft--;
                change();
            } else {
                callRun();
                looksLeft = random.nextInt(120);
                changesLeft = random.nextInt(20);
            }
        }
    }

    private void change() {
        int dice = random.nextInt(78);
        if (dice < 10) {
            callContainer();
        } else if (dice < 22) {
            callTest();
        } else if (dice < 32) {
            callMark();
        } else if (dice < 72) {
            callMethod();
        } else {
            callWithout();
        }
    }

    private void look() {
        int dice = random.nextInt(100);
        int i = number(0, Math.max(0, model.count(1) - 1));
        if (dice < 25) {
            int what = number(0, 10);
            due.is(name + "count " + what, engine.count(what), model.count(what));
        } else if (dice < 75) {
            int what = number(0, 7);
            due.is(name + "event " + i + " " + what, engine.event(i, what), model.event(i, what));
        } else {
            int k = number(0, 3);
            due.is(name + "trouble " + i + " " + k, engine.trouble(i, k), model.trouble(i, k));
        }
    }

    private boolean chance(int percent) {
        return random.nextInt(100) < percent;
    }

    /** Mostly from low to high, at times one beside it or far away. */
    private int number(int low, int high) {
        if (chance(3)) {
            int[] beside = {low - 1, high + 1, Integer.MIN_VALUE, Integer.MAX_VALUE};
            return beside[random.nextInt(4)];
        }
        return low + random.nextInt(high - low + 1);
    }

    private int node() {
        return number(0, model.count(0) - 1);
    }

    private int few(int low, int high) {
        return chance(70) ? low + random.nextInt(3) : number(low, high);
    }

    private int mask() {
        return chance(40) ? 0 : chance(90) ? 1 << random.nextInt(5) : number(0, 255);
    }

    private void callContainer() {
        int parent = node();
        int order = few(0, 99);
        boolean shared = chance(50);
        due.is(name + "container", engine.container(parent, order, shared), model.container(parent, order, shared));
    }

    private void callTest() {
        int parent = node();
        int order = few(0, 99);
        int rounds = number(1, 3);
        int deadline = number(1, 50);
        due.is(name + "test", engine.test(parent, order, rounds, deadline),
                model.test(parent, order, rounds, deadline));
    }

    private void callMark() {
        int node = node();
        int tags = mask();
        boolean disabled = chance(15);
        due.is(name + "mark", engine.mark(node, tags, disabled), model.mark(node, tags, disabled));
    }

    private void callMethod() {
        int node = node();
        int kind = number(0, 6);
        int result = chance(troubled) ? number(1, 2) : 0;
        int code = number(0, 99);
        int length = chance(60) ? random.nextInt(5) : number(0, 50);
        due.is(name + "method", engine.method(node, kind, result, code, length),
                model.method(node, kind, result, code, length));
    }

    private void callWithout() {
        int node = node();
        int kind = number(0, 6);
        due.is(name + "without", engine.without(node, kind), model.without(node, kind));
    }

    private void callRun() {
        int wanted = chance(50) ? 0 : mask();
        int unwanted = chance(50) ? 0 : mask();
        int broken = chance(50) ? 0 : number(0, 9);
        due.is(name + "run", engine.run(wanted, unwanted, broken), model.run(wanted, unwanted, broken));
    }
}
