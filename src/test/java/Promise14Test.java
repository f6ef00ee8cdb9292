/** Promise 14, flip, to its edges: the time at hand and the last one, one before and one behind; each node by itself. */
public final class Promise14Test {
    public static void main(String[] args) {
        Checks.promise(14);
        timeAtHand();
        lastTime();
        eachNode();
        twiceIsOnce();
        refusals();
        Checks.end("Promise14Test");
    }

    private static CarHouse car() {
        return Checks.carOf("controller a", "controller b");
    }

    private static long flip(CarHouse x, int node, int t) {
        return Checks.done(() -> x.flip(node, t));
    }

    private static void timeAtHand() {
        CarHouse x = car();
        Checks.due("at 0", 0, () -> flip(x, 0, 0));
        Checks.due("nothing happens yet", 0, () -> x.node(0, 0));
        x.run(1);
        Checks.due("a saw a 0", 2, () -> x.node(0, 0));
        Checks.due("the bus was 1", 1, () -> x.bit(0));
        CarHouse y = car();
        y.run(100);
        Checks.thrown("a time that has gone by", IllegalArgumentException.class, () -> flip(y, 0, 99));
        Checks.due("the time at hand", 0, () -> flip(y, 0, 100));
        y.run(1);
        Checks.due("a saw a 0", 2, () -> y.node(0, 0));
        Checks.thrown("now it has gone by", IllegalArgumentException.class, () -> flip(y, 1, 100));
        Checks.due("the next one", 0, () -> flip(y, 1, 101));
        y.run(1);
        Checks.due("b saw a 0", 2, () -> y.node(1, 0));
    }

    private static void lastTime() {
        CarHouse x = car();
        Checks.due("at 19999", 0, () -> flip(x, 2, 19999));
        Checks.thrown("at 20000", IllegalArgumentException.class, () -> flip(x, 2, 20000));
        x.run(19999);
        Checks.due("nothing yet", 0, () -> x.node(2, 0));
        Checks.due("also at 19999 itself", 0, () -> flip(x, 1, 19999));
        x.run(1);
        Checks.due("the tester saw a 0", 2, () -> x.node(2, 0));
        Checks.due("and b", 2, () -> x.node(1, 0));
        Checks.due("but not a", 0, () -> x.node(0, 0));
        Checks.thrown("19999 has gone by", IllegalArgumentException.class, () -> flip(x, 0, 19999));
        Checks.thrown("nothing is left", IllegalArgumentException.class, () -> flip(x, 0, 20000));
        Checks.due("no error came of it", 0, () -> x.error(-1, 0));
    }

    private static void eachNode() {
        for (int n = 0; n < 7; n++) {
            CarHouse x = Checks.carOf(Faults.many(6, "controller q%"));
            x.flip(n, 5);
            x.run(6);
            for (int k = 0; k < 7; k++) {
                int node = k;
                Checks.due("a flip for node " + n + " alone", k == n ? 2 : 0, () -> x.node(node, 0));
            }
        }
        CarHouse all = Checks.carOf(Faults.many(6, "controller q%"));
        for (int n = 0; n < 7; n++) {
            all.flip(n, 5);
        }
        all.run(6);
        for (int k = 0; k < 7; k++) {
            int node = k;
            Checks.due("a flip for all", 2, () -> all.node(node, 0));
        }
        Checks.thrown("there is no eighth node", IndexOutOfBoundsException.class, () -> flip(all, 7, 10));
        Checks.thrown("a node of one controller is the tester, not two", IndexOutOfBoundsException.class, () -> flip(Checks.carOf("controller a"), 2, 10));
        Checks.due("the tester of one controller", 0, () -> flip(Checks.carOf("controller a"), 1, 10));
        // A flip of a 0 shows a 1.
        CarHouse zero = Checks.carOf("controller a");
        Checks.say(zero, 25);
        zero.ask(0);
        zero.flip(0, 1);
        zero.run(2);
        Checks.due("the tester put a 0", 0, () -> zero.bit(1));
        Checks.due("which a did not see", 0, () -> zero.node(0, 0));
    }

    private static void twiceIsOnce() {
        CarHouse x = car();
        for (int i = 0; i < 4; i++) {
            x.flip(0, 5);
        }
        x.run(6);
        Checks.due("four flips at one time are one", 2, () -> x.node(0, 0));
    }

    private static CarHouse halfway() {
        CarHouse x = Checks.carOf("controller a", "controller b", "task t a 1 20000 0 1", "chart c t 1", "datum c d 5", "signal s 8 c d 500");
        x.flip(1, 700);
        x.run(510);
        return x;
    }

    private static void refusals() {
        int[][] gone = {{0, 509}, {1, 0}, {2, -1}, {0, Integer.MIN_VALUE}, {0, 20000}, {2, 20001}, {1, Integer.MAX_VALUE}};
        for (int[] at : gone) {
            Checks.refused("flip(" + at[0] + ", " + at[1] + ")", IllegalArgumentException.class, Promise14Test::halfway, x -> flip(x, at[0], at[1]));
        }
        int[][] nobody = {{-1, 600}, {3, 600}, {3, 509}, {-1, 20000}, {Integer.MIN_VALUE, 600}, {Integer.MAX_VALUE, -1}, {32, 600}, {8, 600}};
        for (int[] at : nobody) {
            Checks.refused("flip(" + at[0] + ", " + at[1] + ")", IndexOutOfBoundsException.class, Promise14Test::halfway, x -> flip(x, at[0], at[1]));
        }
        Checks.thrown("flip(0, 0) without a car", IndexOutOfBoundsException.class, () -> flip(new CarHouse(), 0, 0));
        Checks.thrown("flip(0, -1) without a car", IndexOutOfBoundsException.class, () -> flip(new CarHouse(), 0, -1));
        for (int t : new int[] {0, 1, 19999}) {
            CarHouse next = car();
            next.flip(0, t);
            next.flip(2, t);
            next.system();
            next.run(t + 1);
            Checks.due("a flip at " + t + " is of its car alone", 0, () -> next.node(0, 0) + next.node(2, 0));
        }
    }
}
