/** Promise 15, silence, to its edges: none and all of the controllers, from the very microsecond on; what silence is not. */
public final class Promise15Test {
    private static final String[] CAR = {"controller a", "controller b", "task t a 1 500 0 1", "task u b 1 500 0 1", "chart c t 1", "chart e u 1", "datum c d 5",
        "datum e f 6", "datum c g 0", "signal s 8 c d 500", "signal r 8 e f 500", "read r c g 1"};

    public static void main(String[] args) {
        Checks.promise(15);
        howMany();
        fromNowOn();
        onlyItsFrames();
        refusals();
        Checks.end("Promise15Test");
    }

    private static void howMany() {
        CarHouse x = Checks.carOf(Faults.many(6, "controller q%"));
        Checks.due("none, and one is not", 0, () -> x.silence(0, false));
        for (int c = 0; c < 6; c++) {
            int controller = c;
            Checks.due("one more", c + 1, () -> x.silence(controller, true));
            Checks.due("the same once more", c + 1, () -> x.silence(controller, true));
        }
        for (int c = 5; c >= 0; c--) {
            int controller = c;
            Checks.due("one less", c, () -> x.silence(controller, false));
            Checks.due("the same once more", c, () -> x.silence(controller, false));
        }
        x.silence(3, true);
        x.run(100);
        Checks.due("it lasts", 2, () -> x.silence(5, true));
        x.system();
        Checks.due("not in another car", 1, () -> x.silence(5, true));
    }

    private static void sent(String what, CarHouse x, int first, int second) {
        Checks.due(what + ": a's frame", first, () -> x.frame(0, 4));
        Checks.due(what + ": b's frame", second, () -> x.frame(1, 4));
    }

    private static void fromNowOn() {
        CarHouse x = Checks.carOf(CAR);
        x.run(500);
        x.silence(0, true);
        x.run(1);
        sent("silent in the microsecond of sending", x, 0, 1);
        x.silence(0, false);
        x.run(499);
        sent("one microsecond too late", x, 0, 1);
        x.run(1);
        sent("the next time", x, 1, 2);
        x.silence(1, true);
        x.run(499);
        x.silence(1, false);
        x.run(1);
        sent("silent for all microseconds but that one", x, 2, 3);
    }

    /** A frame that was sent goes on; the node acknowledges, takes and answers; tasks run. */
    private static void onlyItsFrames() {
        CarHouse x = Checks.carOf(CAR);
        x.run(501);
        x.silence(0, true);
        x.silence(1, true);
        Checks.due("both frames come through", 2, () -> x.run(400));
        Checks.due("a took b's", 6, () -> x.value(0, 1));
        Checks.due("and has an event", 1, () -> x.chart(0, 1));
        x.run(200);
        Checks.due("the task was done twice more", 3, () -> x.task(0, 2));
        Checks.same("it answers", "98 1 0 0 0 0 0 0 0 0 5", Checks.asked(x, 0, 900, 34, 1, 0));
        sent("nothing more was sent", x, 1, 1);
        CarHouse alone = Checks.carOf("controller a", "task t a 1 20000 0 1", "chart c t 1", "datum c d 5", "signal s 8 c d 500");
        alone.silence(0, true);
        alone.run(20000);
        Checks.due("silent all the time", 0, () -> alone.frame(0, 4));
        Checks.due("nothing was lost by that", 0, () -> alone.counted(0));
        Checks.due("nothing was on the bus", 0, () -> alone.node(1, 2));
    }

    private static CarHouse halfway() {
        CarHouse x = Checks.carOf(CAR);
        x.silence(1, true);
        x.run(450);
        return x;
    }

    private static void refusals() {
        for (int c : new int[] {-1, 2, 3, Integer.MIN_VALUE, Integer.MAX_VALUE}) {
            for (boolean on : new boolean[] {true, false}) {
                Checks.refused("silence(" + c + ", " + on + ")", IndexOutOfBoundsException.class, Promise15Test::halfway, x -> x.silence(c, on));
            }
        }
        Checks.thrown("silence(0, true) without a car", IndexOutOfBoundsException.class, () -> new CarHouse().silence(0, true));
        Checks.thrown("the tester of six controllers", IndexOutOfBoundsException.class,
            () -> Checks.carOf(Faults.many(6, "controller q%")).silence(6, true));
    }
}
