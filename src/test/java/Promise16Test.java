/** Promise 16, running, to its edges: microseconds that have gone by, each controller by itself, the last of the tasks. */
public final class Promise16Test {
    public static void main(String[] args) {
        Checks.promise(16);
        bounds();
        lastMicrosecond();
        twelveTasks();
        ranks();
        equalRanks();
        ends();
        refusals();
        Checks.end("Promise16Test");
    }

    /** Who ran on a controller, and for how many microseconds, from a time on. */
    private static void ran(String what, CarHouse x, int controller, int from, int... tasksAndTimes) {
        StringBuilder want = new StringBuilder();
        StringBuilder got = new StringBuilder();
        int t = from;
        for (int i = 0; i < tasksAndTimes.length; i += 2) {
            for (int n = 0; n < tasksAndTimes[i + 1]; n++) {
                want.append(tasksAndTimes[i]).append(' ');
                got.append(x.running(controller, t++)).append(' ');
            }
        }
        Checks.same(what, want.toString(), got.toString());
    }

    private static void bounds() {
        CarHouse x = Checks.carOf("controller a", "controller b", "task t b 1 500 0 1");
        Checks.thrown("0 has not gone by", IndexOutOfBoundsException.class, () -> x.running(1, 0));
        x.run(1);
        Checks.due("it has", 1, () -> x.running(1, 0));
        Checks.due("nobody on a", 0, () -> x.running(0, 0));
        Checks.thrown("1 has not gone by", IndexOutOfBoundsException.class, () -> x.running(1, 1));
        Checks.thrown("-1", IndexOutOfBoundsException.class, () -> x.running(1, -1));
        x.run(19999);
        Checks.due("0 is not forgotten", 1, () -> x.running(1, 0));
        Checks.due("the last one", 0, () -> x.running(1, 19999));
        Checks.thrown("20000", IndexOutOfBoundsException.class, () -> x.running(1, 20000));
        x.system();
        Checks.thrown("nothing has gone by in another car", IndexOutOfBoundsException.class, () -> x.running(1, 0));
        CarHouse none = Checks.carOf("controller a");
        none.run(500);
        ran("without tasks", none, 0, 0, 0, 500);
    }

    /** Activations are told up to 19999. */
    private static void lastMicrosecond() {
        CarHouse x = Checks.carOf("controller a", "controller b", "task t a 1 20000 19999 5", "task u b 1 500 499 1");
        x.run(20000);
        Checks.due("not before", 0, () -> x.running(0, 19998));
        Checks.due("in the last microsecond", 1, () -> x.running(0, 19999));
        Checks.due("the last of forty, too", 2, () -> x.running(1, 19999));
        Checks.due("not in the one before", 0, () -> x.running(1, 19998));
        ran("the first of forty", x, 1, 498, 0, 1, 2, 2, 0, 1);
        CarHouse first = Checks.carOf("controller a", "task t a 1 20000 0 1000");
        first.run(20000);
        ran("at 0, with the longest run", first, 0, 0, 1, 1001, 0, 18999);
    }

    /** Twelve tasks on six controllers, each tells its own number. */
    private static void twelveTasks() {
        StringBuilder lines = new StringBuilder(Faults.many(6, "controller q%"));
        for (int i = 0; i < 12; i++) {
            lines.append("task t").append(i).append(" q").append(i % 6).append(" 7 20000 ").append(10 * i).append(" 3\n");
        }
        CarHouse x = Checks.carOf(lines.toString());
        x.run(130);
        for (int i = 0; i < 12; i++) {
            for (int c = 0; c < 6; c++) {
                ran("task " + (i + 1) + " on controller " + c, x, c, 10 * i, c == i % 6 ? i + 1 : 0, 4, 0, 1);
            }
        }
        CarHouse one = Checks.carOf("controller a\n" + Faults.many(12, "task t% a 9 20000 0 1"));
        one.run(30);
        ran("all on one, in their order", one, 0, 0, 1, 2, 2, 2, 3, 2, 4, 2, 5, 2, 6, 2, 7, 2, 8, 2, 9, 2, 10, 2, 11, 2, 12, 2, 0, 6);
    }

    /** The greater rank comes between, by one or by all; the lesser one goes on where it was. */
    private static void ranks() {
        int[][] pairs = {{0, 1}, {254, 255}, {0, 255}, {127, 128}};
        for (int[] pair : pairs) {
            CarHouse x = Checks.carOf("controller a", "task low a " + pair[0] + " 20000 0 9", "task high a " + pair[1] + " 20000 3 4");
            x.run(30);
            ran("rank " + pair[1] + " over " + pair[0], x, 0, 0, 1, 3, 2, 5, 1, 7, 0, 10);
            CarHouse y = Checks.carOf("controller a", "task high a " + pair[1] + " 20000 0 9", "task low a " + pair[0] + " 20000 3 4");
            y.run(30);
            ran("rank " + pair[0] + " waits", y, 0, 0, 1, 10, 2, 5, 0, 10);
        }
    }

    /** Of one rank the running one goes on; then comes the one that was ready first, of one time the lesser number. */
    private static void equalRanks() {
        CarHouse x = Checks.carOf("controller a", "task p a 3 20000 5 9", "task q a 3 20000 0 9", "task r a 3 20000 5 9", "task s a 3 20000 4 9");
        x.run(60);
        ran("in the order of their turns", x, 0, 0, 2, 10, 4, 10, 1, 10, 3, 10, 0, 20);
        CarHouse y = Checks.carOf("controller a", "task p a 3 20000 0 9", "task q a 3 20000 1 9", "task r a 4 20000 2 9");
        y.run(40);
        ran("one that was put back keeps its turn", y, 0, 0, 1, 2, 3, 10, 1, 8, 2, 10, 0, 10);
        // Wanted once more while it runs, a task gets its turn when it begins anew: behind the one that waits.
        CarHouse z = Checks.carOf("controller a", "task p a 3 500 0 600", "task q a 3 20000 550 9");
        z.run(1300);
        ran("a wanted activation has a new turn", z, 0, 0, 1, 601, 2, 10, 1, 601, 1, 80);
    }

    /** A task that has used its microseconds ends in a step of the next one, behind the activations that come with that. */
    private static void ends() {
        CarHouse x = Checks.carOf("controller a", "task low a 1 500 0 499", "task high a 2 20000 500 9");
        x.run(520);
        ran("it has used its last microsecond at 499, and one is wanted at 500", x, 0, 498, 1, 2, 2, 10, 1, 8);
        CarHouse same = Checks.carOf("controller a", "task p a 1 500 0 499", "task q a 1 20000 500 9");
        same.run(520);
        // At 500 q is ready before p ends and is activated again.
        ran("of one rank", same, 0, 498, 1, 2, 2, 10, 1, 8);
    }

    private static CarHouse halfway() {
        CarHouse x = Checks.carOf("controller a", "controller b", "task t a 1 500 0 9", "task u b 3 700 4 90");
        x.run(600);
        return x;
    }

    private static void refusals() {
        int[][] none = {{-1, 0}, {2, 0}, {0, -1}, {0, 600}, {1, 20000}, {Integer.MIN_VALUE, 0}, {Integer.MAX_VALUE, 0}, {0, Integer.MIN_VALUE},
            {0, Integer.MAX_VALUE}, {6, 0}, {2, 600}};
        for (int[] at : none) {
            Checks.refused("running(" + at[0] + ", " + at[1] + ")", IndexOutOfBoundsException.class, Promise16Test::halfway, x -> x.running(at[0], at[1]));
        }
        Checks.thrown("running(0, 0) without a car", IndexOutOfBoundsException.class, () -> new CarHouse().running(0, 0));
    }
}
