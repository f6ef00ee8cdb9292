/** Promise 22, cycle, to its edges: without a car, without watches, more cycles than eight bits count, with TESTS and without. */
public final class Promise22Test {
    private static final String[] CAR = {"controller a", "controller b", "task t a 1 20000 0 1", "chart c t 1", "datum c d 5", "signal s 8 c d 500", "watch s b 9"};

    public static void main(String[] args) {
        Checks.promise(22);
        counts();
        bits();
        refusals();
        Checks.end("Promise22Test");
    }

    private static void counts() {
        CarHouse x = Checks.carOf("controller a");
        for (int i = 1; i <= 300; i++) {
            int n = i;
            Checks.due("cycle " + n, n, () -> x.cycle(n % 2 == 0));
        }
        Checks.due("cycles take no time", 0, x::time);
        x.system();
        Checks.due("another car has its own", 1, () -> x.cycle(true));
        x.run(20000);
        Checks.due("also when all time has gone by", 2, () -> x.cycle(false));
    }

    private static void status(String what, CarHouse x, int want) {
        Checks.due(what, want, () -> x.trouble(0, 0));
    }

    /** Bit 1 becomes 0 and bit 6 becomes 1 in any case, once and again. */
    private static void bits() {
        for (boolean tested : new boolean[] {true, false}) {
            CarHouse fresh = Checks.carOf(CAR);
            fresh.cycle(tested);
            status("as at first", fresh, 80);
            CarHouse failed = Checks.carOf(CAR);
            failed.silence(0, true);
            failed.run(3000);
            status("failed", failed, 39);
            failed.cycle(tested);
            status("failed, in a cycle before", failed, 101);
            failed.cycle(tested);
            status("and in one before that", failed, 101);
            failed.run(1499);
            status("not tested in this one", failed, 101);
            failed.run(1);
            status("failed again", failed, 175);
            CarHouse passed = Checks.carOf(CAR);
            passed.run(1300);
            status("passed", passed, 0);
            passed.cycle(tested);
            status("not tested since", passed, 64);
            passed.run(500);
            status("passed again", passed, 0);
        }
    }

    private static void refusals() {
        Checks.refused("cycle(true) without a car", IllegalStateException.class, CarHouse::new, x -> x.cycle(true));
        Checks.refused("cycle(false) without a car", IllegalStateException.class, CarHouse::new, x -> x.cycle(false));
        Checks.refused("cycle(true) behind a fault", IllegalStateException.class, () -> {
            CarHouse x = Checks.carOf(CAR);
            x.cycle(true);
            Checks.tell(x, "\nx");
            x.system();
            x.cut(x.place());
            return x;
        }, x -> x.cycle(true));
    }
}
