/** Promises 23 to 28: counted, say, ask, asking, answer, answers; what controllers answer, and messages of many frames. */
public final class TesterTest {
    private static final String[] CAR = {
        "controller a", "controller b", "task t a 1 20000 0 1", "task u b 1 20000 0 1", "chart c t 1", "chart e u 1", "datum c d -2", "datum e f 258",
        "signal s 8 c d 500"};

    public static void main(String[] args) {
        Checks.promise(24);
        saying();
        Checks.promise(25);
        oneQuestion();
        Checks.promise(27);
        sessions();
        reading();
        writing();
        wrongKeys();
        seeds();
        lengths();
        Checks.promise(25);
        framesOnTheBus();
        Checks.promise(26);
        endedSide();
        Checks.promise(23);
        noRoomForQuestions();
        Checks.promise(25);
        noMessageLeft();
        Checks.promise(26);
        questionBehindAnEnd();
        Checks.promise(23);
        counted();
        Checks.end("TesterTest");
    }

    private static CarHouse car(String... more) {
        return Checks.carOf(String.join("\n", CAR), String.join("\n", more));
    }

    private static void answers(String what, CarHouse x, int controller, String want, int... octets) {
        Checks.same(what, want, Checks.asked(x, controller, 700, octets));
        Checks.due(what + ": nothing is asked any more", -1, x::asking);
    }

    private static void saying() {
        CarHouse x = car();
        for (int i = 1; i <= 100; i++) {
            int n = i;
            Checks.due("say", n, () -> x.say((byte) n));
        }
        Checks.due("the 101st is lost", 100, () -> x.say((byte) 1));
        Checks.due("ask(1)", 100, () -> x.ask(1));
        Checks.due("there are none any more", 1, () -> x.say((byte) 1));
        CarHouse none = car();
        Checks.thrown("ask(0) without octets", IllegalStateException.class, () -> none.ask(0));
        Checks.thrown("ask(2)", IndexOutOfBoundsException.class, () -> none.ask(2));
        Checks.thrown("ask(-1)", IndexOutOfBoundsException.class, () -> none.ask(-1));
        CarHouse without = new CarHouse();
        Checks.due("say without a car", 1, () -> without.say((byte) 25));
        Checks.thrown("ask without a car", IndexOutOfBoundsException.class, () -> without.ask(0));
        Checks.tell(without, "controller a");
        without.system();
        Checks.due("octets stay", 1, () -> without.ask(0));
    }

    private static void oneQuestion() {
        CarHouse x = car();
        Checks.due("asking()", -1, x::asking);
        Checks.say(x, 25);
        Checks.due("ask(1)", 1, () -> x.ask(1));
        Checks.due("asking()", 1, x::asking);
        Checks.due("answers()", 0, x::answers);
        Checks.say(x, 20);
        Checks.thrown("ask(0) while something is asked", IllegalStateException.class, () -> x.ask(0));
        Checks.thrown("ask(7) while something is asked", IndexOutOfBoundsException.class, () -> x.ask(7));
        Checks.due("one frame is made in the first microsecond", 0, () -> x.run(1));
        Checks.due("it waits", 1, () -> x.node(2, 1));
        Checks.due("two frames, question and answer", 2, () -> x.run(300));
        Checks.due("asking()", -1, x::asking);
        Checks.due("answers()", 2, x::answers);
        Checks.due("answer(0)", 89, () -> x.answer(0));
        Checks.due("answer(1)", 0, () -> x.answer(1));
        Checks.thrown("answer(2)", IndexOutOfBoundsException.class, () -> x.answer(2));
        Checks.thrown("answer(-1)", IndexOutOfBoundsException.class, () -> x.answer(-1));
        Checks.due("the refused call took no octets", 1, () -> x.ask(0));
        Checks.due("no answer any more", 0, x::answers);
        Checks.thrown("answer(0)", IndexOutOfBoundsException.class, () -> x.answer(0));
        x.run(400);
        Checks.same("another one", "84", Checks.answerOf(x));
        x.system();
        Checks.due("a new car has no answer", 0, x::answers);
    }

    private static void sessions() {
        CarHouse x = car();
        answers("16 1", x, 0, "80 1", 16, 1);
        answers("16 3", x, 0, "80 3", 16, 3);
        answers("16 0", x, 0, "127 16 18", 16, 0);
        answers("16 4", x, 0, "127 16 18", 16, 4);
        answers("a is in session 3", x, 0, "103 1 158 55 121 177", 39, 1);
        answers("b is not", x, 1, "127 39 34", 39, 1);
        answers("16 3 again", x, 0, "80 3", 16, 3);
        answers("no seed is open then", x, 0, "127 39 36", 39, 2, 1, 2, 3, 4);
    }

    private static void reading() {
        CarHouse x = car();
        answers("34 1 0 of a", x, 0, "98 1 0 255 255 255 255 255 255 255 254", 34, 1, 0);
        answers("34 2 0 of b", x, 1, "98 2 0 0 0 0 0 0 0 1 2", 34, 2, 0);
        answers("34 1 31 of a", x, 0, "98 1 31 0 0 0 0 0 0 0 0", 34, 1, 31);
        answers("34 1 32 of a", x, 0, "127 34 49", 34, 1, 32);
        answers("34 1 255 of a", x, 0, "127 34 49", 34, 1, 255);
        answers("34 2 0 of a", x, 0, "127 34 49", 34, 2, 0);
        answers("34 0 0 of a", x, 0, "127 34 49", 34, 0, 0);
        answers("34 3 0 of b", x, 1, "127 34 49", 34, 3, 0);
        answers("34 255 0 of b", x, 1, "127 34 49", 34, 255, 0);
    }

    private static void writing() {
        CarHouse x = car();
        int[] write = {46, 1, 31, 128, 0, 0, 0, 0, 0, 0, 7};
        answers("46 while rights are shut", x, 0, "127 46 51", write);
        answers("also for what is not there", x, 0, "127 46 51", 46, 9, 99, 0, 0, 0, 0, 0, 0, 0, 0);
        answers("16 2", x, 0, "80 2", 16, 2);
        answers("39 1", x, 0, "103 1 158 55 121 177", 39, 1);
        answers("39 2", x, 0, "103 2", Cmac.keyFor(x));
        answers("46", x, 0, "110 1 31", write);
        Checks.due("the datum became that", Long.MIN_VALUE + 7, () -> x.value(0, 31));
        answers("46 of a datum above 31", x, 0, "127 46 49", 46, 1, 32, 0, 0, 0, 0, 0, 0, 0, 0);
        answers("46 of a chart of b", x, 0, "127 46 49", 46, 2, 0, 0, 0, 0, 0, 0, 0, 0, 0);
        answers("rights of b are shut", x, 1, "127 46 51", 46, 2, 0, 0, 0, 0, 0, 0, 0, 0, 0);
        answers("the key is used up", x, 0, "127 39 36", 39, 2, 0, 0, 0, 0);
        answers("rights are still open", x, 0, "110 1 0", 46, 1, 0, 0, 0, 0, 0, 0, 0, 0, 3);
        answers("16 2 again", x, 0, "80 2", 16, 2);
        answers("shuts them", x, 0, "127 46 51", write);
    }

    private static void wrongKeys() {
        CarHouse x = car();
        answers("16 2", x, 0, "80 2", 16, 2);
        answers("no seed is open", x, 0, "127 39 36", 39, 2, 0, 0, 0, 0);
        answers("39 1", x, 0, "103 1 158 55 121 177", 39, 1);
        answers("right", x, 0, "103 2", Cmac.keyFor(x));
        answers("another seed", x, 0, "103 1 60 110 243 98", 39, 1);
        answers("wrong for the first time", x, 0, "127 39 53", 39, 2, 0, 0, 0, 0);
        answers("it shuts the rights", x, 0, "127 46 51", 46, 1, 0, 0, 0, 0, 0, 0, 0, 0, 0);
        answers("no seed is open", x, 0, "127 39 36", 39, 2, 0, 0, 0, 0);
        answers("a third seed", x, 0, "103 1 218 166 109 19", 39, 1);
        answers("wrong for the second time", x, 0, "127 39 53", 39, 2, 0, 0, 0, 0);
        answers("another session", x, 0, "80 3", 16, 3);
        answers("a fourth seed", x, 0, "103 1 120 221 230 196", 39, 1);
        answers("wrong for the third time", x, 0, "127 39 54", 39, 2, 0, 0, 0, 0);
        answers("no seed any more", x, 0, "127 39 54", 39, 1);
        answers("nor a key", x, 0, "127 39 54", 39, 2, 0, 0, 0, 0);
        answers("session 1", x, 0, "80 1", 16, 1);
        answers("is told before", x, 0, "127 39 34", 39, 1);
        answers("a key is too late in any session", x, 0, "127 39 54", 39, 2, 0, 0, 0, 0);
        answers("b has its own count", x, 1, "80 2", 16, 2);
        answers("but the seeds are of the car", x, 1, "103 1 23 21 96 117", 39, 1);
    }

    /** 2654435761 n modulo 2^32, and one that was open is no more. */
    private static void seeds() {
        CarHouse x = car();
        answers("16 2 of a", x, 0, "80 2", 16, 2);
        answers("16 2 of b", x, 1, "80 2", 16, 2);
        answers("the first seed", x, 0, "103 1 158 55 121 177", 39, 1);
        int[] old = Cmac.keyFor(x);
        answers("the second one, of b", x, 1, "103 1 60 110 243 98", 39, 1);
        int[] ofB = Cmac.keyFor(x);
        answers("the third one, of a", x, 0, "103 1 218 166 109 19", 39, 1);
        answers("the first one is no more", x, 0, "127 39 53", old);
        answers("b's is open", x, 1, "103 2", ofB);
    }

    private static void lengths() {
        CarHouse x = car();
        int[][] known = {{16}, {16, 1, 1}, {20, 1}, {25, 0}, {34}, {34, 1}, {34, 1, 0, 0}, {46, 1, 0}, {39}, {39, 1, 1}, {39, 2}, {39, 2, 1, 2, 3}, {39, 3},
            {39, 3, 1, 2, 3, 4}, {39, 1, 1, 2, 3, 4}, {46, 1, 0, 1, 2, 3, 4, 5, 6, 7}};
        for (int[] q : known) {
            answers("a length that is none of " + q[0], x, 0, "127 " + q[0] + " 19", q);
        }
        CarHouse y = car();
        int[][] others = {{0}, {127}, {255, 1}, {17, 1}, {98, 1, 0}};
        for (int[] q : others) {
            answers("nothing that is known", y, 1, "127 " + q[0] + " 17", q);
        }
    }

    private static int begin(CarHouse x, int from) {
        int t = from;
        while (x.bit(t) == 1) {
            t++;
        }
        return t;
    }

    private static int behind(CarHouse x, int from) {
        int ones = 0;
        int t = from;
        while (ones < 11) {
            ones = x.bit(t) == 1 ? ones + 1 : 0;
            t++;
        }
        return t;
    }

    private static void framesOnTheBus() {
        CarHouse x = Checks.carOf("controller a", "controller b", "task u b 1 20000 0 1", "chart e u 1", "datum e f 258");
        Checks.say(x, 34, 1, 0);
        x.ask(1);
        x.run(1000);
        // SINGLE to b; FIRST of 11 octets, FLOW, one CONSECUTIVE back.
        int t = begin(x, 0);
        Checks.due("the question begins behind the first microsecond", 1, () -> begin(x, 0));
        Checks.same("single", "1538 | 0 34 1 0 0 0 0 0 | right", Checks.frameAt(x, t));
        t = begin(x, behind(x, t));
        Checks.same("first", "1539 | 27 98 1 0 0 0 0 0 | right", Checks.frameAt(x, t));
        t = begin(x, behind(x, t));
        Checks.same("flow", "1538 | 48 0 0 0 0 0 0 0 | right", Checks.frameAt(x, t));
        t = begin(x, behind(x, t));
        Checks.same("consecutive", "1539 | 33 0 0 0 1 2 0 0 | right", Checks.frameAt(x, t));
        Checks.same("the answer", "98 1 0 0 0 0 0 0 0 1 2", Checks.answerOf(x));
        CarHouse y = Checks.carOf("controller a");
        int[] long20 = new int[20];
        for (int i = 0; i < 20; i++) {
            long20[i] = 200 + i;
        }
        Checks.say(y, long20);
        y.ask(0);
        y.run(1000);
        t = begin(y, 0);
        Checks.same("first", "1536 | 20 200 201 202 203 204 205 0 | right", Checks.frameAt(y, t));
        t = begin(y, behind(y, t));
        Checks.same("flow", "1537 | 48 0 0 0 0 0 0 0 | right", Checks.frameAt(y, t));
        t = begin(y, behind(y, t));
        Checks.same("consecutive", "1536 | 33 206 207 208 209 210 211 212 | right", Checks.frameAt(y, t));
        t = begin(y, behind(y, t));
        Checks.same("consecutive", "1536 | 34 213 214 215 216 217 218 219 | right", Checks.frameAt(y, t));
        t = begin(y, behind(y, t));
        Checks.same("single", "1537 | 0 127 200 17 0 0 0 0 | right", Checks.frameAt(y, t));
        // 100 octets: FIRST, FLOW, 14 CONSECUTIVE, and the answer.
        CarHouse z = Checks.carOf("controller a");
        for (int i = 0; i < 100; i++) {
            Checks.say(z, 16);
        }
        z.ask(0);
        Checks.due("17 frames", 17, () -> z.run(2500));
        Checks.same("the answer", "127 16 19", Checks.answerOf(z));
    }

    /** From 500 on the bus is full of frames that come before those of questions. */
    private static CarHouse crowded() {
        StringBuilder lines = new StringBuilder("datum c m -1\n");
        for (int i = 0; i < 20; i++) {
            lines.append("signal k").append(i).append(" 64 c m 500\n");
        }
        CarHouse x = car(lines.toString());
        x.run(600);
        return x;
    }

    private static void endedSide() {
        CarHouse x = crowded();
        Checks.say(x, 1, 2, 3, 4, 5, 6, 7, 8);
        x.ask(1);
        x.run(999);
        Checks.due("still asked", 1, x::asking);
        Checks.due("nothing ended", 0, () -> x.counted(4));
        x.run(1);
        // The sender has waited for a flow for 1000 ticks.
        Checks.due("not any more", -1, x::asking);
        Checks.due("ended", 1, () -> x.counted(4));
        Checks.due("no answer", 0, x::answers);
        Checks.say(x, 25);
        x.ask(0);
        x.run(3000);
        Checks.due("a single frame waits without end", 0, x::asking);
        Checks.due("ended", 1, () -> x.counted(4));
    }

    private static void noRoomForQuestions() {
        CarHouse x = crowded();
        x.run(4500);
        int before = x.counted(0);
        Checks.say(x, 25);
        x.ask(0);
        x.run(1);
        Checks.due("lost at once", before + 1, () -> x.counted(0));
        Checks.due("nothing waits at the tester", 0, () -> x.node(2, 1));
        x.run(5000);
        Checks.due("it stays asked", 0, x::asking);
        CarHouse y = crowded();
        y.run(4500);
        Checks.say(y, 1, 2, 3, 4, 5, 6, 7, 8, 9);
        y.ask(0);
        y.run(1000);
        Checks.due("but a sender that waits ends", -1, y::asking);
        Checks.due("that counts", 1, () -> y.counted(4));
    }

    private static void noMessageLeft() {
        CarHouse x = Checks.carOf("controller a");
        for (int i = 0; i < 49; i++) {
            Checks.same("question " + i, "80 2", Checks.asked(x, 0, 260, 16, 2));
        }
        Checks.say(x, 16, 1);
        Checks.due("the 99th message", 2, () -> x.ask(0));
        x.run(260);
        Checks.same("the 100th one answers it", "80 1", Checks.answerOf(x));
        Checks.say(x, 16, 1);
        Checks.thrown("no message is left", IllegalStateException.class, () -> x.ask(0));
        Checks.due("answers counted", 50, () -> x.counted(3));
        x.system();
        Checks.due("a new car has messages", 2, () -> x.ask(0));
        // One question without an answer, 49 with: the next one would be the hundredth message, and none is left for its answer.
        CarHouse odd = Checks.carOf("controller a");
        Checks.say(odd, 1, 2, 3, 4, 5, 6, 7, 8);
        odd.ask(0);
        for (int t = 10; t < 1000; t += 8) {
            odd.flip(0, t);
        }
        odd.run(1400);
        Checks.due("ended", 1, () -> odd.counted(4));
        for (int i = 0; i < 49; i++) {
            Checks.same("question " + i, "80 2", Checks.asked(odd, 0, 260, 16, 2));
        }
        // Message 5, an answer, ended the receiving of message 1; it is an answer all the same, so nothing was asked any more when that counted.
        Checks.due("all are counted", 49, () -> odd.counted(3));
        Checks.due("no question more ended", 1, () -> odd.counted(4));
        Checks.say(odd, 16, 1);
        Checks.thrown("99 messages were made", IllegalStateException.class, () -> odd.ask(0));
    }

    /** A question whose sender ended is never answered; the next one is, when b hears the bus again. */
    private static void questionBehindAnEnd() {
        CarHouse x = car();
        Checks.say(x, 1, 2, 3, 4, 5, 6, 7, 8);
        x.ask(1);
        // From the second frame on b is kept from hearing the bus: it flags each frame that it sees.
        x.run(130);
        for (int t = 131; t < 1400; t += 8) {
            x.flip(1, t);
        }
        x.run(1270);
        Checks.due("the sender ended", 1, () -> x.counted(4));
        Checks.due("nothing is asked", -1, x::asking);
        Checks.say(x, 25);
        x.ask(1);
        x.run(2000);
        Checks.same("answered", "89 0", Checks.answerOf(x));
        Checks.due("answers counted", 1, () -> x.counted(3));
    }

    private static void counted() {
        CarHouse x = car();
        Checks.thrown("counted(5)", IllegalArgumentException.class, () -> x.counted(5));
        Checks.thrown("counted(-1)", IllegalArgumentException.class, () -> x.counted(-1));
        Checks.thrown("counted(5) without a car", IllegalArgumentException.class, () -> new CarHouse().counted(5));
        Checks.due("counted(0) without a car", 0, () -> new CarHouse().counted(0));
        answers("an answer", x, 0, "84", 20);
        Checks.due("counted(3)", 1, () -> x.counted(3));
        x.system();
        Checks.due("of the new car", 0, () -> x.counted(3));
    }
}
