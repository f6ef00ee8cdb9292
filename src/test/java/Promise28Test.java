/** Promise 28, answers, to its edges: none, one octet, the seven that one frame has, eight, and the most that there are. */
public final class Promise28Test {
    public static void main(String[] args) {
        Checks.promise(28);
        none();
        lengths();
        replaced();
        Checks.end("Promise28Test");
    }

    private static void none() {
        Checks.due("without a car", 0, () -> new CarHouse().answers());
        CarHouse x = Checks.carOf("controller a");
        Checks.due("nothing was asked", 0, x::answers);
        Checks.say(x, 20);
        x.ask(0);
        Checks.due("nothing is answered yet", 0, x::answers);
        x.run(400);
        Checks.due("one octet", 1, x::answers);
        Checks.tell(x, "\nx");
        Checks.due("a text changes nothing", 1, x::answers);
        x.system();
        Checks.due("behind a fault", 0, x::answers);
        x.cut(12);
        x.system();
        Checks.due("in another car", 0, x::answers);
    }

    /** With watches that failed an answer to 25 has 2, 4, .., 18 octets: up to 7 in one frame, then in FIRST, FLOW and CONSECUTIVE ones. */
    private static void lengths() {
        for (int watches = 0; watches <= 9; watches++) {
            CarHouse x = Checks.carOf("controller a", "controller b", "task t a 1 20000 0 1", "chart c t 1", "datum c d 5", "signal s 8 c d 500",
                Faults.many(watches, "watch s b 9"));
            x.silence(0, true);
            x.run(3000);
            int octets = 2 + 2 * Math.min(watches, 8);
            int frames = 1 + (octets <= 7 ? 1 : 2 + (octets - 6 + 6) / 7);
            Checks.say(x, 25);
            x.ask(1);
            Checks.due("frames of question and answer", frames, () -> x.run(900));
            Checks.due("octets of the answer", octets, x::answers);
            Checks.due("the last one", octets == 2 ? 0 : 39, () -> x.answer(octets - 1));
        }
        CarHouse x = Checks.carOf("controller a", "task t a 1 20000 0 1", "chart c t 1");
        Checks.asked(x, 0, 600, 16, 2);
        Checks.due("two", 2, x::answers);
        Checks.asked(x, 0, 600, 39, 1);
        Checks.due("six", 6, x::answers);
        Checks.asked(x, 0, 600, 99);
        Checks.due("three", 3, x::answers);
        Checks.asked(x, 0, 600, 34, 1, 0);
        Checks.due("eleven", 11, x::answers);
    }

    private static void replaced() {
        CarHouse x = Checks.carOf("controller a", "task t a 1 20000 0 1", "chart c t 1");
        Checks.asked(x, 0, 600, 34, 1, 0);
        x.run(3000);
        Checks.due("it stays", 11, x::answers);
        x.cycle(true);
        Checks.thrown("ask(0) without octets", IllegalStateException.class, () -> x.ask(0));
        Checks.due("a refused question leaves it", 11, x::answers);
        Checks.say(x, 20);
        Checks.thrown("ask(1)", IndexOutOfBoundsException.class, () -> x.ask(1));
        Checks.due("so does one to nobody", 11, x::answers);
        x.ask(0);
        Checks.due("a question does not", 0, x::answers);
        x.run(400);
        Checks.due("the next one", 1, x::answers);
    }
}
