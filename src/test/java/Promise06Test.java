/** Promise 6, count, to its edges: none and the most of each, and what is none of 0 to 6. */
public final class Promise06Test {
    public static void main(String[] args) {
        Checks.promise(6);
        none();
        most();
        refusals();
        Checks.end("Promise06Test");
    }

    private static void counts(String what, CarHouse x, int... want) {
        for (int i = 0; i < want.length; i++) {
            int w = i;
            Checks.due(what + ": count(" + w + ")", want[w], () -> x.count(w));
        }
    }

    private static void none() {
        counts("a controller alone", Checks.carOf("controller a"), 1, 0, 0, 0, 0, 0, 0);
        counts("a task without a chart", Checks.carOf("controller a", "task t a 1 500 0 1"), 1, 1, 0, 0, 0, 0, 0);
        counts("a signal", Checks.carOf("controller a", "task t a 1 500 0 1", "chart c t 1", "datum c d 0", "signal s 1 c d 500"), 1, 1, 1, 1, 1, 0, 0);
    }

    private static void most() {
        String head = Faults.many(6, "controller q%") + Faults.many(12, "task t% q0 1 500 0 1") + Faults.many(12, "chart c% t% 1") + "datum c0 d 0\n";
        counts("the most of all but reads and watches", Checks.carOf(head + Faults.many(40, "signal s% 64 c0 d 500")), 6, 12, 12, 40, 40, 0, 0);
        String two = "controller a\ncontroller b\ntask t a 1 500 0 1\ntask u b 1 500 0 1\nchart c t 1\nchart e u 1\ndatum c d 0\ndatum e d 0\nsignal s 8 c d 500\n";
        counts("the most reads and watches", Checks.carOf(two + Faults.many(60, "read s e d 1") + Faults.many(30, "watch s b 1")), 2, 2, 2, 1, 1, 60, 30);
        counts("one less of each", Checks.carOf(two + Faults.many(59, "read s e d 1") + Faults.many(29, "watch s b 1")), 2, 2, 2, 1, 1, 59, 29);
        // Signals of one frame are one frame; of two periods, two keys, or two controllers they are two.
        counts("two in a frame", Checks.carOf(two + "signal r 56 c d 500"), 2, 2, 2, 2, 1, 0, 0);
        counts("one bit too many", Checks.carOf(two + "signal r 57 c d 500"), 2, 2, 2, 2, 2, 0, 0);
        counts("another period", Checks.carOf(two + "signal r 8 c d 501"), 2, 2, 2, 2, 2, 0, 0);
        counts("another controller", Checks.carOf(two + "signal r 8 e d 500"), 2, 2, 2, 2, 2, 0, 0);
    }

    private static void refusals() {
        CarHouse none = new CarHouse();
        CarHouse x = Checks.carOf("controller a");
        for (int what : new int[] {-1, 7, Integer.MIN_VALUE, Integer.MAX_VALUE}) {
            Checks.thrown("count(" + what + ")", IllegalArgumentException.class, () -> x.count(what));
            Checks.thrown("count(" + what + ") without a car", IllegalArgumentException.class, () -> none.count(what));
            Checks.refused("count(" + what + ")", IllegalArgumentException.class, () -> Checks.carOf("controller a", "controller b"), y -> y.count(what));
        }
        for (int what = 0; what <= 6; what++) {
            int w = what;
            Checks.thrown("count(" + w + ") without a car", IllegalStateException.class, () -> none.count(w));
        }
        Checks.refused("count(6) without a car", IllegalStateException.class, CarHouse::new, y -> y.count(6));
        Checks.tell(x, "\nx");
        x.system();
        Checks.thrown("count(0) behind a fault", IllegalStateException.class, () -> x.count(0));
    }
}
