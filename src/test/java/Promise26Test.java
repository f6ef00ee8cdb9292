/** Promise 26, asking, to its edges: from the question on, up to the microsecond of the answer, of an end, or for ever. */
public final class Promise26Test {
    public static void main(String[] args) {
        Checks.promise(26);
        nobody();
        upToTheAnswer();
        upToAnEnd();
        forEver();
        othersArePassedOver();
        anOlderAnswer();
        noMessageForTheAnswer();
        Checks.end("Promise26Test");
    }

    private static void asks(String what, CarHouse x, int want) {
        Checks.due(what + ", at " + x.time(), want, x::asking);
    }

    private static void nobody() {
        asks("without a car", new CarHouse(), -1);
        CarHouse x = Checks.carOf("controller a");
        asks("of a new car", x, -1);
        Checks.say(x, 1);
        asks("octets are no question", x, -1);
        x.ask(0);
        asks("a question", x, 0);
        Checks.tell(x, "\nx");
        x.system();
        asks("behind a fault", x, -1);
        x.cut(12);
        x.system();
        asks("of another car", x, -1);
        Checks.thrown("ask(0)", IllegalStateException.class, () -> x.ask(0));
        asks("behind a refused question", x, -1);
        CarHouse six = Checks.carOf(Faults.many(6, "controller q%"));
        Checks.say(six, 1);
        six.ask(5);
        asks("the last of six", six, 5);
        Checks.say(six, 1);
        Checks.thrown("ask(0)", IllegalStateException.class, () -> six.ask(0));
        asks("is asked yet behind a refused question", six, 5);
    }

    private static void upToTheAnswer() {
        CarHouse x = Checks.carOf("controller a", "controller b");
        Checks.say(x, 25);
        x.ask(1);
        while (x.node(2, 2) == 0) {
            asks("up to the answer", x, 1);
            Checks.due("none is there yet", 0, x::answers);
            x.run(1);
        }
        asks("with the very microsecond in which the tester takes it", x, -1);
        Checks.due("it is there", 2, x::answers);
        // Of an answer with two frames the second one is the last.
        CarHouse y = Checks.carOf("controller a", "task t a 1 20000 0 1", "chart c t 1", "datum c d 7");
        Checks.say(y, 34, 1, 0);
        y.ask(0);
        while (y.node(1, 2) < 2) {
            asks("up to the last frame of the answer", y, 0);
            Checks.due("none is there yet", 0, y::answers);
            y.run(1);
        }
        asks("with the last frame", y, -1);
        Checks.due("it is there", 11, y::answers);
    }

    private static CarHouse crowded() {
        CarHouse x = Checks.carOf("controller a", "controller b", "task t a 1 20000 0 1", "chart c t 1", "datum c d -1", Faults.many(20, "signal s% 64 c d 500"));
        x.run(600);
        return x;
    }

    private static void upToAnEnd() {
        CarHouse x = crowded();
        Checks.say(x, 1, 2, 3, 4, 5, 6, 7, 8);
        x.ask(1);
        x.run(999);
        asks("999 ticks without a FLOW", x, 1);
        x.run(1);
        asks("1000 ticks", x, -1);
        Checks.say(x, 1);
        Checks.due("another one may be asked", 1, () -> x.ask(0));
        asks("another one", x, 0);
    }

    private static void forEver() {
        CarHouse x = crowded();
        Checks.say(x, 1, 2, 3, 4, 5, 6, 7);
        x.ask(1);
        x.run(4000);
        asks("a SINGLE frame waits for the bus without an end", x, 1);
        CarHouse lost = crowded();
        lost.run(4500);
        Checks.say(lost, 1, 2, 3, 4, 5, 6, 7);
        lost.ask(1);
        lost.run(20000 - lost.time());
        asks("one that was lost is never answered", lost, 1);
        Checks.say(lost, 1);
        Checks.thrown("so nothing else can be asked", IllegalStateException.class, () -> lost.ask(0));
    }

    /**
     * A question to b whose sender ends, so that another one can be asked; that one's frame waits while the first one's receiver ends,
     * so that a third one can be asked: then two answers come.
     */
    private static void threeQuestions(CarHouse x, int second, int third) {
        int from = x.time();
        int taken = x.node(1, 2);
        int ended = x.counted(4);
        Checks.say(x, 1, 2, 3, 4, 5, 6, 7, 8);
        x.ask(1);
        while (x.node(1, 2) == taken) {
            x.run(1);
        }
        int reached = x.time();
        for (int t = reached + 10; t < reached + 1100; t += 11) {
            x.flip(2, t);
        }
        x.run(from + 1000 - x.time());
        asks("the first question's sender ended", x, -1);
        Checks.say(x, 25);
        x.ask(second);
        x.run(reached + 999 - x.time());
        asks("its receiver ended", x, -1);
        Checks.due("two questions ended", ended + 2, () -> x.counted(4));
        Checks.say(x, 20);
        x.ask(third);
    }

    private static CarHouse two() {
        return Checks.carOf("controller a", "controller b");
    }

    private static void othersArePassedOver() {
        CarHouse x = two();
        threeQuestions(x, 0, 1);
        int taken = x.node(2, 2);
        while (x.counted(3) == 0 && x.node(2, 2) < taken + 2 && x.time() < 4000) {
            asks("b is asked", x, 1);
            x.run(1);
        }
        asks("an answer of a is no answer of b", x, 1);
        Checks.due("it is passed over", 0, x::answers);
        Checks.due("and not counted", 0, () -> x.counted(3));
        x.run(500);
        asks("then b's comes", x, -1);
        Checks.same("that is the answer", "84", Checks.answerOf(x));
        Checks.due("counted", 1, () -> x.counted(3));
    }

    private static void anOlderAnswer() {
        CarHouse x = two();
        threeQuestions(x, 0, 0);
        while (x.answers() == 0 && x.time() < 4000) {
            x.run(1);
        }
        // To 25, which was asked before; the words do not ask which question it answers.
        Checks.same("an answer of the controller that is asked", "89 0", Checks.answerOf(x));
        asks("nothing is asked any more", x, -1);
        x.run(600);
        Checks.same("the one to 20 is passed over", "89 0", Checks.answerOf(x));
        Checks.due("one answer", 1, () -> x.counted(3));
    }

    /**
     * Three questions behind 96 messages: the answer to the second one is the 100th, so there is none for the answer to the third one.
     * That one, 20, clears all the same: the watch, which failed at 6000 and 12000, fails at 18000 once more, for the first time since.
     */
    private static void noMessageForTheAnswer() {
        CarHouse x = Checks.carOf("controller a", "controller b", "task t a 1 20000 0 1", "chart c t 1", "datum c d 5", "signal s 8 c d 2000", "watch s b 9");
        x.silence(0, true);
        for (int i = 0; i < 48; i++) {
            Checks.asked(x, i % 2, 250, 16, 2);
        }
        Checks.due("48 answers", 48, () -> x.counted(3));
        threeQuestions(x, 0, 1);
        Checks.due("the watch failed", 1, () -> x.trouble(0, 4));
        x.run(20000 - x.time());
        Checks.due("the third question was heeded: no entry", -1, () -> x.trouble(0, 4));
        Checks.due("and a status as at first", 80, () -> x.trouble(0, 0));
        Checks.due("both questions were taken, and the tester took the 100th message", 48, () -> x.counted(3));
        asks("the third question stays asked", x, 1);
        Checks.due("without an answer", 0, x::answers);
        Checks.due("b has nothing to send", 0, () -> x.node(1, 1));
        // One question less: the last message is the answer.
        CarHouse y = two();
        for (int i = 0; i < 47; i++) {
            Checks.asked(y, i % 2, 250, 16, 2);
        }
        threeQuestions(y, 0, 1);
        y.run(2000);
        asks("behind 94 messages it is answered", y, -1);
        Checks.same("that was the 99th", "84", Checks.answerOf(y));
    }
}
