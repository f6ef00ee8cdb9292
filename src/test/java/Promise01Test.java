/** Promise 1, a new object, to its edges: no text, no car, no octets of a question, whatever other objects have. */
public final class Promise01Test {
    public static void main(String[] args) {
        Checks.promise(1);
        noText();
        noCar();
        noOctets();
        ownState();
        constants();
        Checks.end("Promise01Test");
    }

    private static void noText() {
        CarHouse x = new CarHouse();
        Checks.due("a new object has 0 characters", 0, () -> x.cut(0));
        Checks.thrown("and not 1", IllegalArgumentException.class, () -> x.cut(1));
        Checks.due("a text without characters has no controller", 4, x::system);
        Checks.due("told at its end", 0, x::place);
    }

    private static void noCar() {
        CarHouse x = new CarHouse();
        Class<? extends RuntimeException> index = IndexOutOfBoundsException.class;
        Checks.due("time()", 0, x::time);
        Checks.due("place()", 0, x::place);
        Checks.due("asking()", -1, x::asking);
        Checks.due("answers()", 0, x::answers);
        Checks.thrown("answer(0)", index, () -> x.answer(0));
        for (int what = 0; what <= 6; what++) {
            int w = what;
            Checks.thrown("count(" + w + ")", IllegalStateException.class, () -> x.count(w));
        }
        for (int what = 0; what <= 4; what++) {
            int w = what;
            Checks.due("counted(" + w + ")", 0, () -> x.counted(w));
        }
        Checks.thrown("frame(0, 0)", index, () -> x.frame(0, 0));
        Checks.thrown("signal(0, false)", index, () -> x.signal(0, false));
        Checks.thrown("signal(0, true)", index, () -> x.signal(0, true));
        Checks.thrown("run(0)", IllegalStateException.class, () -> x.run(0));
        Checks.thrown("bit(0)", index, () -> x.bit(0));
        Checks.thrown("node(0, 0): not even a tester", index, () -> x.node(0, 0));
        Checks.thrown("error(-1, 0)", index, () -> x.error(-1, 0));
        Checks.thrown("flip(0, 0)", index, () -> Checks.done(() -> x.flip(0, 0)));
        Checks.thrown("silence(0, false)", index, () -> x.silence(0, false));
        Checks.thrown("running(0, 0)", index, () -> x.running(0, 0));
        Checks.thrown("task(0, 0)", index, () -> x.task(0, 0));
        Checks.thrown("active(0, 0)", index, () -> x.active(0, 0));
        Checks.thrown("value(0, 0)", index, () -> x.value(0, 0));
        Checks.thrown("chart(0, 0)", index, () -> x.chart(0, 0));
        Checks.thrown("trouble(0, 0)", index, () -> x.trouble(0, 0));
        Checks.thrown("cycle(false)", IllegalStateException.class, () -> x.cycle(false));
        Checks.thrown("ask(0)", index, () -> x.ask(0));
    }

    private static void noOctets() {
        CarHouse x = new CarHouse();
        Checks.tell(x, "controller a");
        x.system();
        Checks.thrown("there is nothing to ask", IllegalStateException.class, () -> x.ask(0));
        CarHouse y = new CarHouse();
        Checks.due("the first octet is the only one", 1, () -> y.say((byte) 0));
    }

    /** What one object has been told is nothing to the next one. */
    private static void ownState() {
        CarHouse first = Checks.carOf("controller a", "controller b");
        Checks.say(first, 1, 2, 3);
        for (int i = 0; i < 15; i++) {
            first.system();
        }
        first.run(20000);
        CarHouse x = new CarHouse();
        Checks.thrown("no text", IllegalArgumentException.class, () -> x.cut(1));
        Checks.due("no time", 0, x::time);
        Checks.due("no octets", 1, () -> x.say((byte) 9));
        for (int i = 0; i < 16; i++) {
            Checks.due("system() may be called 16 times", 4, x::system);
        }
        Checks.same("and two new ones have the same story", Story.of(new CarHouse()), Story.of(new CarHouse()));
    }

    private static void constants() {
        int[] faults = {CarHouse.UNKNOWN_WORD, CarHouse.WORDS, CarHouse.TWICE, CarHouse.NOTHING, CarHouse.NUMBER, CarHouse.TOO_MUCH, CarHouse.NO_FIT,
            CarHouse.TOO_LARGE};
        for (int i = 0; i < faults.length; i++) {
            int fault = faults[i];
            Checks.due("the constants are 1 to 8", i + 1, () -> fault);
        }
    }
}
