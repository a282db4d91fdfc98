import java.util.function.ToIntFunction;

/** What the tests of the boundary cases share. */
final class Edges {
    private Edges() { }

    /**
     * Numbers beside low .. high, at both ends, and numbers that would fall back into it if they were
     * cut to a byte or a short. The range must have at most 256 numbers.
     */
    static int[] outside(int low, int high) {
        return new int[] {low - 1, high + 1, low - 256, low + 256, high + 256, low + 65536, low - 65536,
            Integer.MIN_VALUE, Integer.MIN_VALUE + low, Integer.MAX_VALUE};
    }

    /** All that the getters tell of the latest run, in one text. */
    static String picture(LifecycleEngine x) {
        StringBuilder text = new StringBuilder("counts");
        for (int what = 0; what <= 10; what++) {
            text.append(' ').append(x.count(what));
        }
        int events = x.count(1);
        for (int i = 0; i < events; i++) {
            text.append("\nevent");
            for (int what = 0; what <= 7; what++) {
                text.append(' ').append(x.event(i, what));
            }
            text.append(" troubles");
            for (int k = 0; k <= 3; k++) {
                text.append(' ').append(x.trouble(i, k));
            }
        }
        return text.toString();
    }

    /**
     * A small tree in which each setting leaves its trace in the events of a run: the shared container 1
     * with the test 2 (two rounds), the test 3 before them, the disabled test 4 behind. It has been run once.
     */
    static LifecycleEngine sample() {
        LifecycleEngine x = new LifecycleEngine();
        x.container(0, 5, true);
        x.test(1, 0, 2, 20);
        x.test(0, 4, 1, 20);
        x.test(0, 6, 1, 20);
        x.mark(0, 1, false);
        x.mark(1, 2, false);
        x.mark(2, 4, false);
        x.mark(4, 8, true);
        x.method(0, 1, 0, 3, 1);
        x.method(1, 0, 0, 4, 2);
        x.method(1, 2, 2, 5, 3);
        x.method(1, 3, 1, 6, 4);
        x.method(2, 4, 1, 7, 5);
        x.run(0, 0, 0);
        return x;
    }

    /** Makes a call on one of two equal objects: it must be refused, and no getter or later run may tell them apart. */
    static void refused(Due due, String name, ToIntFunction<LifecycleEngine> call) {
        LifecycleEngine x = sample();
        LifecycleEngine y = sample();
        due.is(name, call.applyAsInt(x), LifecycleEngine.REFUSED);
        due.same("the latest run after " + name, picture(x), picture(y));
        due.is("a run after " + name, x.run(0, 0, 0), y.run(0, 0, 0));
        due.same("a run after " + name, picture(x), picture(y));
        due.is("a run by tags after " + name, x.run(2, 8, 1), y.run(2, 8, 1));
        due.same("a run by tags after " + name, picture(x), picture(y));
        for (int kind = 0; kind <= 3; kind++) {
            due.is("without(1, " + kind + ") after " + name, x.without(1, kind), y.without(1, kind));
        }
        due.is("the next number after " + name, x.test(0, 0, 1, 1), 5);
    }
}
