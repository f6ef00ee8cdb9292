/** Promises 16 and 17: running and task; who runs when on each controller. */
public final class CoresTest {
    private static final int SUSPENDED = 0, READY = 1, RUNNING = 2;

    public static void main(String[] args) {
        Checks.promise(16);
        higherRank();
        equalRanks();
        Checks.promise(17);
        wanted();
        endAndActivation();
        Checks.promise(16);
        ownCores();
        Checks.promise(17);
        wrongInputs();
        Checks.end("CoresTest");
    }

    private static void runs(CarHouse x, int controller, int from, int to, int want) {
        for (int t = from; t <= to; t++) {
            int at = t;
            Checks.due("running(" + controller + ", " + at + ")", want, () -> x.running(controller, at));
        }
    }

    private static void states(CarHouse x, int... want) {
        for (int i = 0; i < want.length; i++) {
            int task = i;
            Checks.due("state of task " + i + " at " + x.time(), want[i], () -> x.task(task, 0));
        }
    }

    private static void higherRank() {
        CarHouse x = Checks.carOf("controller a", "task low a 5 1000 0 100", "task high a 9 700 50 30");
        states(x, SUSPENDED, SUSPENDED);
        x.run(1);
        states(x, RUNNING, SUSPENDED);
        x.run(50);
        states(x, READY, RUNNING);
        Checks.due("used by the low one", 50, () -> x.task(0, 1));
        x.run(30);
        Checks.due("the high one used its start and its run", 31, () -> x.task(1, 1));
        Checks.due("and is done", 1, () -> x.task(1, 2));
        // It ends in a step of the next microsecond.
        states(x, READY, RUNNING);
        x.run(1);
        states(x, RUNNING, SUSPENDED);
        x.run(49);
        Checks.due("not done yet", 0, () -> x.task(0, 2));
        x.run(1);
        Checks.due("used by the low one", 101, () -> x.task(0, 1));
        Checks.due("done", 1, () -> x.task(0, 2));
        x.run(868);
        runs(x, 0, 0, 49, 1);
        runs(x, 0, 50, 80, 2);
        runs(x, 0, 81, 131, 1);
        runs(x, 0, 132, 749, 0);
        runs(x, 0, 750, 780, 2);
        runs(x, 0, 781, 999, 0);
        states(x, SUSPENDED, SUSPENDED);
        x.run(1);
        runs(x, 0, 1000, 1000, 1);
    }

    private static void equalRanks() {
        // Of one rank the one that runs goes on; then comes the one that was ready first.
        CarHouse x = Checks.carOf("controller a", "task p a 3 20000 5 10", "task q a 3 20000 0 10", "task r a 3 20000 5 10", "task s a 3 20000 4 10");
        x.run(60);
        runs(x, 0, 0, 10, 2);
        runs(x, 0, 11, 21, 4);
        runs(x, 0, 22, 32, 1);
        runs(x, 0, 33, 43, 3);
        runs(x, 0, 44, 59, 0);
        // One that was put back keeps its turn.
        CarHouse y = Checks.carOf("controller a", "task p a 3 20000 0 10", "task q a 3 20000 1 10", "task r a 4 20000 2 10");
        y.run(40);
        runs(y, 0, 0, 1, 1);
        runs(y, 0, 2, 12, 3);
        runs(y, 0, 13, 21, 1);
        runs(y, 0, 22, 32, 2);
        runs(y, 0, 33, 39, 0);
    }

    private static void wanted() {
        // Each activation takes 1001 microseconds; of two that come meanwhile the second one is too many.
        CarHouse x = Checks.carOf("controller a", "task p a 3 500 0 1000");
        x.run(20000);
        Checks.due("used", 20000, () -> x.task(0, 1));
        Checks.due("done", 19, () -> x.task(0, 2));
        // Two activations are all that a task has: of those at 0, 500, 1000 and 1500 the last two come too early.
        CarHouse y = Checks.carOf("controller a", "task low a 1 500 0 9", "task high a 2 20000 1 1000", "task high2 a 2 20000 2 1000");
        y.run(2040);
        runs(y, 0, 0, 0, 1);
        runs(y, 0, 1, 1001, 2);
        runs(y, 0, 1002, 2002, 3);
        runs(y, 0, 2003, 2021, 1);
        runs(y, 0, 2022, 2039, 0);
        Checks.due("two of five are done", 2, () -> y.task(0, 2));
    }

    /** The activation at 500 comes before the step in which the first one ends, which a higher task puts off. */
    private static void endAndActivation() {
        CarHouse x = Checks.carOf("controller a", "task low a 1 500 0 499", "task high a 2 20000 500 100");
        x.run(500);
        Checks.due("all microseconds are used", 1, () -> x.task(0, 2));
        states(x, RUNNING, SUSPENDED);
        x.run(1);
        states(x, READY, RUNNING);
        x.run(101);
        runs(x, 0, 500, 600, 2);
        runs(x, 0, 601, 601, 1);
        states(x, RUNNING, SUSPENDED);
        Checks.due("it began anew", 501, () -> x.task(0, 1));
        CarHouse y = Checks.carOf("controller a", "task p a 1 500 0 499");
        y.run(20000);
        Checks.due("each activation finds its time", 40, () -> y.task(0, 2));
        Checks.due("and leaves none", 20000, () -> y.task(0, 1));
    }

    private static void ownCores() {
        CarHouse x = Checks.carOf("controller a", "controller b", "task p a 3 20000 0 10", "task q b 9 20000 0 10", "task r b 1 20000 3 2");
        x.run(20);
        runs(x, 0, 0, 10, 1);
        runs(x, 0, 11, 19, 0);
        runs(x, 1, 0, 10, 2);
        runs(x, 1, 11, 13, 3);
        runs(x, 1, 14, 19, 0);
    }

    private static void wrongInputs() {
        CarHouse x = Checks.carOf("controller a", "task p a 3 500 0 10");
        x.run(10);
        Checks.thrown("running(1, 0)", IndexOutOfBoundsException.class, () -> x.running(1, 0));
        Checks.thrown("running(-1, 0)", IndexOutOfBoundsException.class, () -> x.running(-1, 0));
        Checks.thrown("running(0, 10)", IndexOutOfBoundsException.class, () -> x.running(0, 10));
        Checks.thrown("running(0, -1)", IndexOutOfBoundsException.class, () -> x.running(0, -1));
        Checks.thrown("task(1, 0)", IndexOutOfBoundsException.class, () -> x.task(1, 0));
        Checks.thrown("task(-1, 9)", IndexOutOfBoundsException.class, () -> x.task(-1, 9));
        Checks.thrown("task(0, 3)", IllegalArgumentException.class, () -> x.task(0, 3));
        Checks.thrown("task(0, -1)", IllegalArgumentException.class, () -> x.task(0, -1));
    }
}
