/** Promise 17, task, to its edges: states, microseconds used and how often DONE, before and behind each change; two activations at most. */
public final class Promise17Test {
    private static final int SUSPENDED = 0, READY = 1, RUNNING = 2;

    public static void main(String[] args) {
        Checks.promise(17);
        oneActivation();
        longest();
        readyAndRunning();
        usedUpAndReady();
        twoActivations();
        thirdIsLost();
        lastTime();
        refusals();
        Checks.end("Promise17Test");
    }

    private static void tells(String what, CarHouse x, int i, int state, int used, int done) {
        Checks.due(what + ": state at " + x.time(), state, () -> x.task(i, 0));
        Checks.due(what + ": used at " + x.time(), used, () -> x.task(i, 1));
        Checks.due(what + ": done at " + x.time(), done, () -> x.task(i, 2));
    }

    /** A run of 1 takes two microseconds, the first being its START; it is over in a step of the third. */
    private static void oneActivation() {
        CarHouse x = Checks.carOf("controller a", "task t a 0 20000 10 1");
        tells("before any time", x, 0, SUSPENDED, 0, 0);
        x.run(10);
        tells("before its offset", x, 0, SUSPENDED, 0, 0);
        x.run(1);
        tells("its start", x, 0, RUNNING, 1, 0);
        x.run(1);
        tells("its run", x, 0, RUNNING, 2, 1);
        x.run(1);
        tells("over", x, 0, SUSPENDED, 2, 1);
        x.run(19987);
        tells("to the end", x, 0, SUSPENDED, 2, 1);
    }

    private static void longest() {
        CarHouse x = Checks.carOf("controller a", "task t a 255 20000 0 1000");
        x.run(1000);
        tells("1000 of 1001", x, 0, RUNNING, 1000, 0);
        x.run(1);
        tells("1001", x, 0, RUNNING, 1001, 1);
        x.run(1);
        tells("over", x, 0, SUSPENDED, 1001, 1);
    }

    private static void readyAndRunning() {
        CarHouse x = Checks.carOf("controller a", "task low a 1 20000 0 5", "task high a 2 20000 2 3");
        x.run(2);
        tells("low", x, 0, RUNNING, 2, 0);
        tells("high", x, 1, SUSPENDED, 0, 0);
        x.run(1);
        tells("low", x, 0, READY, 2, 0);
        tells("high", x, 1, RUNNING, 1, 0);
        x.run(3);
        tells("low", x, 0, READY, 2, 0);
        tells("high", x, 1, RUNNING, 4, 1);
        x.run(1);
        tells("low", x, 0, RUNNING, 3, 0);
        tells("high", x, 1, SUSPENDED, 4, 1);
        x.run(3);
        tells("low", x, 0, RUNNING, 6, 1);
        x.run(1);
        tells("low", x, 0, SUSPENDED, 6, 1);
        // One that is activated together with a higher one is ready without having run.
        CarHouse y = Checks.carOf("controller a", "task low a 1 20000 0 5", "task high a 2 20000 0 3");
        y.run(4);
        tells("low", y, 0, READY, 0, 0);
        tells("high", y, 1, RUNNING, 4, 1);
        y.run(1);
        tells("low", y, 0, RUNNING, 1, 0);
        tells("high", y, 1, SUSPENDED, 4, 1);
    }

    /** A task ends in a step, so only when it is chosen: one that has used all its microseconds is READY while a higher one runs. */
    private static void usedUpAndReady() {
        CarHouse x = Checks.carOf("controller a", "task low a 1 20000 0 9", "task high a 2 20000 10 20");
        x.run(10);
        tells("low has used all", x, 0, RUNNING, 10, 1);
        x.run(1);
        tells("low", x, 0, READY, 10, 1);
        tells("high", x, 1, RUNNING, 1, 0);
        x.run(20);
        tells("low, up to the last microsecond of high", x, 0, READY, 10, 1);
        tells("high", x, 1, RUNNING, 21, 1);
        x.run(1);
        tells("low", x, 0, SUSPENDED, 10, 1);
        tells("high", x, 1, SUSPENDED, 21, 1);
        // An activation that comes meanwhile is wanted, and has its turn behind the end, so behind one that became READY before.
        CarHouse y = Checks.carOf("controller a", "task low a 1 500 0 499", "task other a 1 20000 501 5", "task high a 2 20000 500 20");
        y.run(521);
        tells("low", y, 0, READY, 500, 1);
        y.run(1);
        tells("other, READY since 501", y, 1, RUNNING, 1, 0);
        tells("low again", y, 0, READY, 500, 1);
        y.run(6);
        tells("then low", y, 0, RUNNING, 501, 1);
    }

    /** An activation that comes while the task is at its work is wanted: it begins behind that, without a microsecond between. */
    private static void twoActivations() {
        CarHouse x = Checks.carOf("controller a", "task t a 1 500 0 700");
        x.run(701);
        tells("the first one", x, 0, RUNNING, 701, 1);
        x.run(1);
        tells("the second one, wanted since 500", x, 0, RUNNING, 702, 1);
        x.run(700);
        tells("the second one is done", x, 0, RUNNING, 1402, 2);
        x.run(1);
        tells("the third one, wanted since 1000", x, 0, RUNNING, 1403, 2);
        // Exactly as long as its period: it is activated in the microsecond in which it ends.
        CarHouse just = Checks.carOf("controller a", "task t a 1 500 0 499");
        just.run(20000);
        tells("no microsecond is free", just, 0, RUNNING, 20000, 40);
        CarHouse less = Checks.carOf("controller a", "task t a 1 500 0 498");
        less.run(20000);
        tells("one is", less, 0, SUSPENDED, 19960, 40);
        CarHouse more = Checks.carOf("controller a", "task t a 1 500 0 500");
        more.run(20000);
        tells("one is missing", more, 0, RUNNING, 20000, 39);
    }

    /** A higher task keeps it from running: of its activations at 0, 500, 1000, 1500, 2000 two are left. */
    private static void thirdIsLost() {
        String[] high = {"task h1 a 2 20000 0 1000", "task h2 a 2 20000 0 1000", "task h3 a 2 20000 0 300"};
        CarHouse x = Checks.carOf("controller a", "task low a 1 500 0 9", String.join("\n", high));
        x.run(2303);
        tells("it waits", x, 0, READY, 0, 0);
        x.run(10);
        tells("the first one", x, 0, RUNNING, 10, 1);
        x.run(10);
        tells("the second one", x, 0, RUNNING, 20, 2);
        x.run(1);
        tells("there is no third one", x, 0, SUSPENDED, 20, 2);
        x.run(177);
        tells("up to 2500", x, 0, RUNNING, 21, 2);
    }

    private static void lastTime() {
        CarHouse x = Checks.carOf("controller a", "task t a 1 20000 19999 1", "task u a 1 500 499 1000");
        x.run(19999);
        Checks.due("not activated yet", 0, () -> x.task(0, 1) + x.task(0, 0));
        x.run(1);
        Checks.due("activated at 19999, but another one runs", 1, () -> x.task(0, 0));
        CarHouse y = Checks.carOf("controller a", "task t a 1 20000 19998 1", "task u a 0 20000 19999 1");
        y.run(20000);
        tells("done in the last microsecond", y, 0, RUNNING, 2, 1);
        tells("never begun", y, 1, READY, 0, 0);
    }

    private static CarHouse halfway() {
        CarHouse x = Checks.carOf("controller a", "task t a 1 500 0 9", "task u a 3 700 4 90");
        x.run(505);
        return x;
    }

    private static void refusals() {
        for (int i : new int[] {-1, 2, Integer.MIN_VALUE, Integer.MAX_VALUE}) {
            for (int what : new int[] {-1, 0, 2, 3}) {
                Checks.refused("task(" + i + ", " + what + ")", IndexOutOfBoundsException.class, Promise17Test::halfway, x -> x.task(i, what));
            }
        }
        for (int what : new int[] {-1, 3, Integer.MIN_VALUE, Integer.MAX_VALUE}) {
            Checks.refused("task(0, " + what + ")", IllegalArgumentException.class, Promise17Test::halfway, x -> x.task(0, what));
            Checks.refused("task(1, " + what + ")", IllegalArgumentException.class, Promise17Test::halfway, x -> x.task(1, what));
            Checks.thrown("task(0, " + what + ") without a car", IndexOutOfBoundsException.class, () -> new CarHouse().task(0, what));
        }
        Checks.thrown("task(0, 0) without tasks", IndexOutOfBoundsException.class, () -> Checks.carOf("controller a").task(0, 0));
        CarHouse twelve = Checks.carOf("controller a\n" + Faults.many(12, "task t% a 9 20000 0 1"));
        twelve.run(24);
        Checks.due("the twelfth task", 1, () -> twelve.task(11, 2));
        Checks.thrown("no thirteenth", IndexOutOfBoundsException.class, () -> twelve.task(12, 2));
    }
}
