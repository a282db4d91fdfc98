public final class Example {
    public static void main(String[] args) {
        LifecycleEngine engine = new LifecycleEngine();
        int box = engine.container(0, 5, true);   // below node 0, order 5, one shared instance
        int test = engine.test(box, 0, 2, 20);    // two rounds, deadline 20
        engine.mark(test, 1, false);              // tags 1, not disabled
        engine.method(box, 1, 0, 0, 3);           // OPEN EACH: returns, takes 3
        engine.method(box, 2, 1, 44, 1);          // CLOSE EACH: fails with code 44, takes 1
        engine.method(test, 5, 2, 12, 4);         // the body of round 1: gives up with code 12, takes 4

        int answer = engine.run(1, 0, 0);         // tags wanted: 1, unwanted: none, no break
        System.out.println("run answers " + answer + ", time " + engine.count(8));
        for (int i = 0; i < engine.count(1); i++) {
            StringBuilder line = new StringBuilder();
            for (int what = 0; what < 8; what++) {
                line.append(' ').append(engine.event(i, what));
            }
            for (int k = 0; engine.trouble(i, k) != LifecycleEngine.NONE; k++) {
                line.append(" trouble ").append(engine.trouble(i, k));
            }
            System.out.println(i + ":" + line);
        }
    }
}
