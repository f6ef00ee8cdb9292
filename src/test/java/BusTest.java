/** Promises 9 to 15: run, time, bit, node, error, flip, silence; bits, errors and frames on the bus. */
public final class BusTest {
    private static final String[] CAR = {
        "controller a", "controller b", "task t a 1 20000 0 1", "chart c t 1", "datum c d 4660", "datum c e -1", "datum c f 5",
        "task u b 1 20000 0 1", "chart x u 1", "datum x g 0"};
    private static final int QUIET = 0, SENDING = 1, LISTENING = 2, FLAGGING = 3, WAITING = 4, CLEARING = 5, PAUSING = 6;

    public static void main(String[] args) {
        Checks.promise(9);
        times();
        Checks.promise(12);
        oneFrame();
        Checks.promise(11);
        octets();
        Checks.promise(12);
        arbitration();
        Checks.promise(13);
        senderErrors();
        listenerErrors();
        Checks.promise(14);
        flips();
        Checks.promise(13);
        overload();
        Checks.promise(12);
        thirdOfThePause();
        firstOfARow();
        Checks.promise(15);
        silence();
        Checks.promise(23);
        noRoom();
        Checks.end("BusTest");
    }

    private static CarHouse with(String... lines) {
        return Checks.carOf(String.join("\n", CAR), String.join("\n", lines));
    }

    private static void times() {
        CarHouse x = with();
        Checks.due("time()", 0, x::time);
        Checks.due("run(0)", 0, () -> x.run(0));
        Checks.thrown("run(-1)", IllegalArgumentException.class, () -> x.run(-1));
        Checks.thrown("run(20001)", IllegalStateException.class, () -> x.run(20001));
        Checks.thrown("run(2147483647)", IllegalStateException.class, () -> x.run(2147483647));
        Checks.due("run(19999)", 0, () -> x.run(19999));
        Checks.due("time()", 19999, x::time);
        Checks.thrown("run(2)", IllegalStateException.class, () -> x.run(2));
        Checks.due("time()", 19999, x::time);
        Checks.due("run(1)", 0, () -> x.run(1));
        Checks.due("bit(19999)", 1, () -> x.bit(19999));
        Checks.thrown("bit(20000)", IndexOutOfBoundsException.class, () -> x.bit(20000));
        Checks.thrown("bit(-1)", IndexOutOfBoundsException.class, () -> x.bit(-1));
        Checks.thrown("run(1)", IllegalStateException.class, () -> x.run(1));
        Checks.due("run(0)", 0, () -> x.run(0));
    }

    private static void state(CarHouse x, int node, int want) {
        Checks.due("what node " + node + " is at " + x.time(), want, () -> x.node(node, 0));
    }

    /** The frame begins at 500; where it ends is told by its sender, who pauses then. */
    private static int lastEnd(CarHouse x) {
        int n = 0;
        while (x.node(0, 0) != PAUSING && n < 200) {
            x.run(1);
            n++;
        }
        return x.time() - 1;
    }

    private static void oneFrame() {
        CarHouse x = with("signal s 16 c d 500");
        x.run(500);
        state(x, 0, QUIET);
        Checks.due("nothing waits yet", 0, () -> x.node(0, 1));
        x.run(1);
        Checks.due("it waits while it is sent", 1, () -> x.node(0, 1));
        state(x, 0, SENDING);
        state(x, 1, LISTENING);
        state(x, 2, LISTENING);
        Checks.due("before it all is 1", 1, () -> x.bit(499));
        Checks.due("the first bit", 0, () -> x.bit(500));
        Checks.thrown("the next one has not gone by", IndexOutOfBoundsException.class, () -> x.bit(501));
        int end = lastEnd(x);
        Checks.due("took b", 1, () -> x.node(1, 2));
        Checks.due("took the tester", 1, () -> x.node(2, 2));
        Checks.due("a node takes nothing that it sends", 0, () -> x.node(0, 2));
        Checks.due("nothing waits any more", 0, () -> x.node(0, 1));
        // 98 plain bits, ten behind them, and the stuff bits between.
        String told = Checks.frameAt(x, 500);
        Checks.same("the frame", "64 | 52 18 0 0 0 0 0 0 | right", told);
        Checks.due("acknowledged", 0, () -> x.bit(end - 8));
        for (int i = 0; i < 8; i++) {
            int t = end - i;
            Checks.due("behind that all is 1", 1, () -> x.bit(t));
        }
        Checks.due("check end", 1, () -> x.bit(end - 9));
        for (int n = 0; n < 3; n++) {
            for (int k = 0; k < 3; k++) {
                state(x, k, PAUSING);
            }
            x.run(1);
        }
        for (int k = 0; k < 3; k++) {
            state(x, k, QUIET);
        }
        Checks.due("no errors", 0, () -> x.error(-1, 0));
        Checks.thrown("node(3, 0)", IndexOutOfBoundsException.class, () -> x.node(3, 0));
        Checks.thrown("node(-1, 9)", IndexOutOfBoundsException.class, () -> x.node(-1, 9));
        Checks.thrown("node(0, 3)", IllegalArgumentException.class, () -> x.node(0, 3));
        Checks.thrown("node(0, -1)", IllegalArgumentException.class, () -> x.node(0, -1));
        CarHouse y = with("signal s 16 c d 500");
        Checks.due("run(end)", 0, () -> y.run(end));
        Checks.due("the bit of the last end", 1, () -> y.run(1));
        Checks.due("each run tells its own frames", 2, () -> y.run(1000));
    }

    private static void octets() {
        // 12 bits that are not turned, 12 that are, and 64 of -1: the largest first.
        CarHouse x = with("signal s 12 c d 500", "signal r 12 c d 500 turned", "signal q 64 c e 700", "signal p 20 c d 900 turned", "signal o 3 c f 900");
        x.run(1200);
        Checks.same("of 500", "64 | 52 2 2 52 0 0 0 0 | right", Checks.frameAt(x, 500));
        Checks.same("of 700", "72 | 255 255 255 255 255 255 255 255 | right", Checks.frameAt(x, 700));
        Checks.same("of 900", "80 | 0 18 52 5 0 0 0 0 | right", Checks.frameAt(x, 900));
    }

    private static void arbitration() {
        CarHouse x = with("signal s 16 c d 500", "signal q 64 c e 1000", "signal g 16 x g 1000");
        x.run(1000);
        Checks.due("nobody waits", 0, () -> x.node(1, 1));
        x.run(1);
        Checks.due("two of a", 2, () -> x.node(0, 1));
        Checks.due("one of b", 1, () -> x.node(1, 1));
        state(x, 0, SENDING);
        state(x, 1, SENDING);
        // Identifiers 64 and 80: 00001000000 and 00001010000 differ in their seventh bit.
        x.run(7);
        state(x, 1, SENDING);
        x.run(1);
        state(x, 1, LISTENING);
        state(x, 0, SENDING);
        x.run(450);
        Checks.due("no errors", 0, () -> x.error(-1, 0));
        Checks.due("b took two", 3, () -> x.node(1, 2));
        Checks.due("a took one", 1, () -> x.node(0, 2));
        Checks.due("the tester took all", 4, () -> x.node(2, 2));
        Checks.same("the first one", "64 | 52 18 0 0 0 0 0 0 | right", Checks.frameAt(x, 1000));
    }

    private static void told(CarHouse x, int i, int kind, int node, int t) {
        Checks.due("error(" + i + ", 0)", kind, () -> x.error(i, 0));
        Checks.due("error(" + i + ", 1)", node, () -> x.error(i, 1));
        Checks.due("error(" + i + ", 2)", t, () -> x.error(i, 2));
    }

    /** The time of the last end of the frame of 500 in the car of oneFrame. */
    private static int end() {
        CarHouse x = with("signal s 16 c d 500");
        x.run(501);
        return lastEnd(x);
    }

    private static CarHouse flipped(int node, int t) {
        CarHouse x = with("signal s 16 c d 500");
        x.flip(node, t);
        x.run(990);
        return x;
    }

    private static void senderErrors() {
        int end = end();
        CarHouse first = flipped(0, 500);
        told(first, 0, 0, 0, 500);
        CarHouse stuff = flipped(0, 505);
        // Bits 500 to 504 are 0, so 505 is a stuff bit: 1, seen as 0.
        Checks.due("a stuff bit", 1, () -> stuff.bit(505));
        told(stuff, 0, 0, 0, 505);
        CarHouse lost = flipped(0, 506);
        // The one 1 of the identifier 64, seen as 0, is lost to nobody: a listens, the bus stays 1, and the others see six of them.
        told(lost, 0, 1, 1, 510);
        told(lost, 1, 1, 2, 510);
        told(lost, 2, 1, 0, 516);
        Checks.due("the frame is sent again", 0, () -> lost.node(0, 1));
        Checks.due("and taken", 1, () -> lost.node(1, 2));
        CarHouse zero = flipped(0, 507);
        told(zero, 0, 0, 0, 507);
        CarHouse acknowledge = flipped(0, end - 8);
        told(acknowledge, 0, 4, 0, end - 8);
        CarHouse last = flipped(0, end);
        told(last, 0, 0, 0, end);
        Checks.due("taken twice, since the others took it at the sixth end", 2, () -> last.node(1, 2));
        Checks.due("sent once", 1, () -> last.frame(0, 4));
    }

    private static void listenerErrors() {
        int end = end();
        CarHouse stuff = flipped(1, 505);
        told(stuff, 0, 1, 1, 505);
        CarHouse check = flipped(1, 535);
        told(check, 0, 3, 1, end - 7);
        Checks.due("a wrong check is not acknowledged, but the tester does", 0, () -> check.bit(end - 8));
        Checks.due("it comes again", 1, () -> check.node(1, 2));
        CarHouse code = flipped(1, 518);
        // A bit of the length: eight octets become more, which are eight.
        told(code, 0, 2, 1, end - 8);
        CarHouse checkEnd = flipped(2, end - 9);
        told(checkEnd, 0, 2, 2, end - 9);
        CarHouse ackEnd = flipped(2, end - 7);
        told(ackEnd, 0, 2, 2, end - 7);
        CarHouse sixth = flipped(1, end - 1);
        told(sixth, 0, 2, 1, end - 1);
        Checks.due("not taken then, but when it comes again", 1, () -> sixth.node(1, 2));
        CarHouse seventh = flipped(1, end);
        told(seventh, 0, 5, 1, end);
        Checks.due("taken before", 1, () -> seventh.node(1, 2));
        CarHouse ack = flipped(1, end - 8);
        Checks.due("what a listener sees at acknowledge is nothing to it", 0, () -> ack.error(-1, 0));
    }

    private static void flips() {
        CarHouse x = with("signal s 16 c d 500");
        x.run(10);
        Checks.thrown("flip(3, 20)", IndexOutOfBoundsException.class, () -> Checks.done(() -> x.flip(3, 20)));
        Checks.thrown("flip(-1, 20000)", IndexOutOfBoundsException.class, () -> Checks.done(() -> x.flip(-1, 20000)));
        Checks.thrown("flip(0, 9)", IllegalArgumentException.class, () -> Checks.done(() -> x.flip(0, 9)));
        Checks.thrown("flip(0, -1)", IllegalArgumentException.class, () -> Checks.done(() -> x.flip(0, -1)));
        Checks.thrown("flip(0, 20000)", IllegalArgumentException.class, () -> Checks.done(() -> x.flip(0, 20000)));
        Checks.due("flip(0, 10)", 0, () -> Checks.done(() -> x.flip(0, 10)));
        Checks.due("flip(0, 10) again is one flip", 0, () -> Checks.done(() -> x.flip(0, 10)));
        Checks.due("flip(2, 19999)", 0, () -> Checks.done(() -> x.flip(2, 19999)));
        x.run(1);
        // A 0 that nobody put: a listens, alone, until six bits are the same.
        state(x, 0, LISTENING);
        state(x, 1, QUIET);
        Checks.due("the bus is as it was put", 1, () -> x.bit(10));
        x.run(5);
        Checks.due("five equal bits", 0, () -> x.error(-1, 0));
        x.run(1);
        told(x, 0, 1, 0, 16);
        state(x, 0, FLAGGING);
        x.run(1);
        Checks.due("the flag", 0, () -> x.bit(17));
        state(x, 1, LISTENING);
        x.run(5);
        // The others saw six zeros, the first being the beginning of a frame.
        told(x, 1, 1, 1, 22);
        told(x, 2, 1, 2, 22);
        state(x, 0, WAITING);
        state(x, 1, FLAGGING);
        x.run(6);
        state(x, 0, WAITING);
        state(x, 1, WAITING);
        Checks.due("their flags", 0, () -> x.bit(28));
        x.run(1);
        state(x, 0, CLEARING);
        state(x, 1, CLEARING);
        x.run(6);
        state(x, 0, CLEARING);
        x.run(1);
        state(x, 0, PAUSING);
        x.run(3);
        state(x, 0, QUIET);
        Checks.due("three errors", 3, () -> x.error(-1, 0));
        Checks.thrown("error(3, 0)", IndexOutOfBoundsException.class, () -> x.error(3, 0));
        Checks.thrown("error(-1, 1)", IndexOutOfBoundsException.class, () -> x.error(-1, 1));
        Checks.thrown("error(-2, 0)", IndexOutOfBoundsException.class, () -> x.error(-2, 0));
        Checks.thrown("error(3, 3)", IndexOutOfBoundsException.class, () -> x.error(3, 3));
        Checks.thrown("error(0, 3)", IllegalArgumentException.class, () -> x.error(0, 3));
        Checks.thrown("error(0, -1)", IllegalArgumentException.class, () -> x.error(0, -1));
    }

    private static void overload() {
        int end = end();
        CarHouse first = flipped(1, end + 1);
        told(first, 0, 5, 1, end + 1);
        CarHouse second = flipped(1, end + 2);
        told(second, 0, 5, 1, end + 2);
        CarHouse third = flipped(1, end + 3);
        Checks.due("0 at the third is the beginning of a frame", 1, () -> third.error(0, 0));
        Checks.due("six equal bits later", end + 9, () -> third.error(0, 2));
        // As in flips() all clear from 30 to 36: a 0 there is a form error, but an overload at the last of them.
        CarHouse form = with("signal s 16 c d 500");
        form.flip(0, 10);
        form.flip(0, 35);
        form.run(60);
        told(form, 3, 2, 0, 35);
        CarHouse over = with("signal s 16 c d 500");
        over.flip(0, 10);
        over.flip(0, 36);
        over.run(60);
        told(over, 3, 5, 0, 36);
        // The others, who pause by then, see the flag from 37 on.
        told(over, 4, 5, 1, 37);
        told(over, 5, 5, 2, 37);
    }

    private static void thirdOfThePause() {
        CarHouse x = with("signal s 16 c d 500", "signal q 64 c e 500");
        x.run(501);
        int end = lastEnd(x);
        x.flip(0, end + 3);
        x.run(3);
        // A 0 that only a sees counts as the first bit of its next frame.
        state(x, 0, SENDING);
        state(x, 1, QUIET);
        Checks.due("nobody put it", 1, () -> x.bit(end + 3));
        x.run(1);
        state(x, 1, LISTENING);
        CarHouse y = with("signal s 16 c d 500", "signal q 64 c e 500");
        y.flip(1, end + 3);
        y.run(end + 4);
        state(y, 0, QUIET);
        state(y, 1, LISTENING);
    }

    /** Of two frames of one identifier that wait, the one with the lesser octets goes first, though it was made later. */
    private static void firstOfARow() {
        CarHouse x = Checks.carOf("controller a", "controller b", "task t a 1 1000 0 1", "chart c t 1", "datum c d 9", "state c s top plain",
            "edge c s s time", "take c d 5", "after c s 900", "task u b 1 20000 0 1", "chart x u 1", "datum x g 0", "signal s 8 c d 600", "read s x g 1");
        for (int t = 590; t < 1250; t += 8) {
            x.flip(1, t);
        }
        x.run(1250);
        Checks.due("two frames wait", 2, () -> x.node(0, 1));
        int t = x.time();
        x.run(400);
        Checks.due("both came", 2, () -> x.node(1, 2));
        Checks.due("5 of 1200 before 9 of 600", 9, () -> x.value(1, 0));
        Checks.due("two events", 2, () -> x.chart(1, 1));
        while (x.bit(t) == 1 || !Checks.frameAt(x, t).startsWith("64 | ") || !Checks.frameAt(x, t).endsWith("right")) {
            t++;
        }
        Checks.same("the first one", "64 | 5 0 0 0 0 0 0 0 | right", Checks.frameAt(x, t));
    }

    private static void silence() {
        CarHouse x = with("signal s 16 c d 500", "signal g 16 x g 500");
        Checks.due("silence(0, true)", 1, () -> x.silence(0, true));
        Checks.due("silence(0, true) again", 1, () -> x.silence(0, true));
        Checks.due("one frame of two", 1, () -> x.run(900));
        Checks.due("a did not send", 0, () -> x.frame(0, 4));
        Checks.due("b did", 1, () -> x.frame(1, 4));
        Checks.due("silence(1, true)", 2, () -> x.silence(1, true));
        Checks.due("silence(0, false)", 1, () -> x.silence(0, false));
        Checks.due("the other one", 1, () -> x.run(500));
        Checks.due("a sent", 1, () -> x.frame(0, 4));
        Checks.due("b did not", 1, () -> x.frame(1, 4));
        Checks.due("silence(1, false)", 0, () -> x.silence(1, false));
        Checks.thrown("the tester is no controller", IndexOutOfBoundsException.class, () -> x.silence(2, true));
        Checks.thrown("silence(-1, true)", IndexOutOfBoundsException.class, () -> x.silence(-1, true));
    }

    private static void noRoom() {
        StringBuilder lines = new StringBuilder();
        for (int i = 0; i < 20; i++) {
            lines.append("signal s").append(i).append(" 64 c e 500\n");
        }
        CarHouse x = with(lines.toString());
        x.run(5001);
        Checks.due("200 frames were made", 0, () -> x.counted(0));
        x.run(500);
        Checks.due("the next twenty are lost", 20, () -> x.counted(0));
        Checks.due("they were sent all the same", 11, () -> x.frame(0, 4));
        x.run(14499);
        Checks.due("all later ones, too", 29 * 20, () -> x.counted(0));
        // Each frame has some 130 bits with those of the pause, so 20000 bits are not enough for 200 of them.
        Checks.due("those that did not come through wait", 200 - x.node(1, 2), () -> x.node(0, 1));
    }
}
