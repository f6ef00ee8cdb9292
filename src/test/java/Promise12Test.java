import java.util.Arrays;

/** Promise 12, node, to its edges: what a node is before each bit of a frame, a flag and a pause; how many frames wait, and were TAKEN. */
public final class Promise12Test {
    private static final int QUIET = 0, SENDING = 1, LISTENING = 2, FLAGGING = 3, WAITING = 4, CLEARING = 5, PAUSING = 6;
    private static final String[] CAR = {"controller a", "controller b", "task t a 1 20000 0 1", "chart c t 1", "datum c d 4660", "task u b 1 20000 0 1",
        "chart e u 1", "datum e f 0", "signal s 16 c d 500"};

    public static void main(String[] args) {
        Checks.promise(12);
        bounds();
        oneFrame();
        flag();
        waiting();
        clearing();
        pausing();
        arbitration();
        behindArbitration();
        rows();
        firstOfARow();
        firstByIdentifiers();
        sixControllers();
        stuffBitsOfFlexibleOnes();
        Checks.end("Promise12Test");
    }

    private static CarHouse car(String... more) {
        return Checks.carOf(String.join("\n", CAR), String.join("\n", more));
    }

    private static void bounds() {
        CarHouse x = car();
        for (int what = 0; what < 3; what++) {
            int w = what;
            Checks.due("the first controller", 0, () -> x.node(0, w));
            Checks.due("the tester", 0, () -> x.node(2, w));
        }
        for (int node : new int[] {-1, 3, Integer.MIN_VALUE, Integer.MAX_VALUE}) {
            for (int what : new int[] {-1, 0, 2, 3}) {
                Checks.thrown("node(" + node + ", " + what + ")", IndexOutOfBoundsException.class, () -> x.node(node, what));
            }
            Checks.refused("node(" + node + ", 0)", IndexOutOfBoundsException.class, Promise12Test::car, y -> y.node(node, 0));
        }
        for (int what : new int[] {-1, 3, Integer.MIN_VALUE, Integer.MAX_VALUE}) {
            Checks.thrown("node(0, " + what + ")", IllegalArgumentException.class, () -> x.node(0, what));
            Checks.thrown("node(2, " + what + ")", IllegalArgumentException.class, () -> x.node(2, what));
            Checks.thrown("node(0, " + what + ") without a car", IndexOutOfBoundsException.class, () -> new CarHouse().node(0, what));
            Checks.refused("node(0, " + what + ")", IllegalArgumentException.class, Promise12Test::car, y -> y.node(0, what));
        }
        Checks.thrown("node(0, 0) without a car", IndexOutOfBoundsException.class, () -> new CarHouse().node(0, 0));
    }

    /** What a node is, and for how many bit times, from the time at hand on. */
    private static void goes(String what, CarHouse x, int node, int... statesAndTimes) {
        StringBuilder want = new StringBuilder();
        StringBuilder got = new StringBuilder();
        for (int i = 0; i < statesAndTimes.length; i += 2) {
            for (int n = 0; n < statesAndTimes[i + 1]; n++) {
                want.append(statesAndTimes[i]);
                got.append(x.node(node, 0));
                x.run(1);
            }
        }
        Checks.same(what, want.toString(), got.toString());
    }

    /** The time of the last END of the frame of 500. */
    private static int lastEnd() {
        CarHouse x = car();
        x.run(501);
        while (x.node(0, 1) == 1) {
            x.run(1);
        }
        return x.time() - 1;
    }

    private static void oneFrame() {
        int end = lastEnd();
        CarHouse a = car();
        goes("its sender", a, 0, QUIET, 501, SENDING, end - 500, PAUSING, 3, QUIET, 20);
        CarHouse b = car();
        goes("a listener", b, 1, QUIET, 501, LISTENING, end - 500, PAUSING, 3, QUIET, 20);
        CarHouse tester = car();
        goes("the tester", tester, 2, QUIET, 501, LISTENING, end - 500, PAUSING, 3, QUIET, 20);
        CarHouse x = car();
        x.run(500);
        Checks.due("none waits before 500", 0, () -> x.node(0, 1));
        x.run(1);
        Checks.due("one waits from its first bit on", 1, () -> x.node(0, 1));
        x.run(end - 1 - x.time());
        Checks.due("not taken before the sixth END", 0, () -> x.node(1, 2) + x.node(2, 2));
        x.run(1);
        Checks.due("taken with the sixth END by both", 11, () -> 10 * x.node(1, 2) + x.node(2, 2));
        Checks.due("not by its sender", 0, () -> x.node(0, 2));
        Checks.due("it waits up to the last END", 1, () -> x.node(0, 1));
        x.run(1);
        Checks.due("then it does not", 0, () -> x.node(0, 1));
        x.run(300);
        Checks.due("each is taken once", 11, () -> 10 * x.node(1, 2) + x.node(2, 2));
    }

    /** A 0 that a sees alone: five equal bits are fine, the sixth is an error; six bits of a flag, seven of clearing, three of a pause. */
    private static void flag() {
        CarHouse a = car();
        a.flip(0, 10);
        goes("who flags first", a, 0, QUIET, 11, LISTENING, 6, FLAGGING, 6, WAITING, 7, CLEARING, 7, PAUSING, 3, QUIET, 20);
        CarHouse b = car();
        b.flip(0, 10);
        // It sees the flag from 17 on: the first bit of a frame, and five more.
        goes("who sees the flag", b, 1, QUIET, 18, LISTENING, 5, FLAGGING, 6, WAITING, 1, CLEARING, 7, PAUSING, 3, QUIET, 20);
    }

    /** A node waits until it sees 1, however long that is. */
    private static void waiting() {
        for (int longer = 0; longer <= 30; longer += 10) {
            CarHouse a = car();
            a.flip(0, 10);
            for (int t = 29; t < 29 + longer; t++) {
                a.flip(0, t);
            }
            goes("0 is seen for " + longer + " times more", a, 0, QUIET, 11, LISTENING, 6, FLAGGING, 6, WAITING, 7 + longer, CLEARING, 7, PAUSING, 3, QUIET, 5);
        }
        // What is seen while flagging does not matter.
        CarHouse b = car();
        b.flip(0, 10);
        for (int t = 17; t <= 22; t++) {
            b.flip(0, t);
        }
        goes("1 is seen while it flags", b, 0, QUIET, 11, LISTENING, 6, FLAGGING, 6, WAITING, 7, CLEARING, 7, PAUSING, 3, QUIET, 5);
    }

    private static void clearing() {
        for (int at = 1; at <= 8; at++) {
            CarHouse a = car();
            a.flip(0, 10);
            a.flip(0, 29 + at);
            if (at <= 7) {
                goes("0 at the clearing bit " + at, a, 0, QUIET, 11, LISTENING, 6, FLAGGING, 6, WAITING, 7, CLEARING, at, FLAGGING, 6);
            } else {
                goes("0 behind the clearing bits", a, 0, QUIET, 11, LISTENING, 6, FLAGGING, 6, WAITING, 7, CLEARING, 7, PAUSING, 1, FLAGGING, 6);
            }
        }
    }

    private static void pausing() {
        int end = lastEnd();
        for (int at = 1; at <= 2; at++) {
            CarHouse b = car();
            b.flip(1, end + at);
            goes("0 at the pause's bit " + at, b, 1, QUIET, 501, LISTENING, end - 500, PAUSING, at, FLAGGING, 6);
        }
        CarHouse third = car();
        third.flip(1, end + 3);
        goes("0 at its third", third, 1, QUIET, 501, LISTENING, end - 500, PAUSING, 3, LISTENING, 6, FLAGGING, 6);
        CarHouse behind = car();
        behind.flip(1, end + 4);
        goes("0 behind it", behind, 1, QUIET, 501, LISTENING, end - 500, PAUSING, 3, QUIET, 1, LISTENING, 6, FLAGGING, 6);
        // One that has a frame sends it from the third bit of the pause on, if it sees 0 there, that bit being its first.
        CarHouse sends = car("signal r 64 c d 500");
        sends.flip(0, end + 3);
        goes("0 at its third with a frame", sends, 0, QUIET, 501, SENDING, end - 500, PAUSING, 3, SENDING, 20);
        Checks.due("the 0 was not on the bus", 1, () -> sends.bit(end + 3));
        StringBuilder bits = new StringBuilder();
        for (int t = end + 4; t < end + 12; t++) {
            bits.append(sends.bit(t));
        }
        // Of 72: four zeros more, the stuff bit behind five, then 1 0 0.
        Checks.same("that bit counts as put", "00001100", bits.toString());
        CarHouse two = car("signal r 64 c d 500");
        goes("without one it begins behind the pause", two, 0, QUIET, 501, SENDING, end - 500, PAUSING, 3, QUIET, 1, SENDING, 20);
    }

    /** Identifiers 64 and 80 differ in their seventh bit, behind one stuff bit: who puts 1 there listens from then on. */
    private static void arbitration() {
        String more = "signal r 16 e f 1000\nsignal q 16 c d 1000";
        CarHouse b = car(more);
        b.run(1000);
        goes("who loses", b, 1, QUIET, 1, SENDING, 8, LISTENING, 100);
        CarHouse a = car(more);
        a.run(1000);
        goes("who wins", a, 0, QUIET, 1, SENDING, 100);
        a.run(390);
        Checks.due("no error", 0, () -> a.error(-1, 0));
        Checks.due("all came through", 0, () -> a.node(0, 1) + a.node(1, 1));
        Checks.due("b took two of 1000, and that of 500", 3, () -> a.node(1, 2));
        Checks.due("a took one", 1, () -> a.node(0, 2));
    }

    /** The arbitration ends with plain bit 13: a 1 of the length, seen as 0, is an error; a 0 seen as 1 is one anywhere. */
    private static void behindArbitration() {
        // From 500 on: five zeros, a stuff bit, the 1 of 64 at 506, five zeros, a stuff bit at 512, four zeros, the 1 of the length at 517.
        CarHouse x = car();
        x.run(521);
        StringBuilder bits = new StringBuilder();
        for (int t = 500; t < 521; t++) {
            bits.append(x.bit(t));
        }
        Checks.same("the bits at hand", "000001100000100001000", bits.toString());
        CarHouse one = car();
        one.flip(0, 506);
        one.run(507);
        Checks.due("a 1 of the identifier is lost", LISTENING, () -> one.node(0, 0));
        Checks.due("that is no error", 0, () -> one.error(-1, 0));
        for (int zero : new int[] {500, 504, 507, 511, 513, 514, 515, 516}) {
            CarHouse y = car();
            y.flip(0, zero);
            y.run(zero + 1);
            Checks.due("a 0 seen as 1 is an error", FLAGGING, () -> y.node(0, 0));
            Checks.due("a bit error", 0, () -> y.error(0, 0));
        }
        for (int stuff : new int[] {505, 512}) {
            CarHouse y = car();
            y.flip(0, stuff);
            y.run(stuff + 1);
            Checks.due("a stuff bit is not lost: it is an error", FLAGGING, () -> y.node(0, 0));
            Checks.due("a bit error", 0, () -> y.error(0, 0));
        }
        CarHouse code = car();
        code.flip(0, 517);
        code.run(518);
        Checks.due("a 1 of the length is not lost: it is an error", FLAGGING, () -> code.node(0, 0));
        Checks.due("a bit error", 0, () -> code.error(0, 0));
    }

    private static void rows() {
        CarHouse x = car("signal r 64 c d 500\nsignal q 64 c d 500\nsignal p 64 e f 500");
        x.run(501);
        Checks.due("three wait at a", 3, () -> x.node(0, 1));
        Checks.due("one at b", 1, () -> x.node(1, 1));
        Checks.due("none at the tester", 0, () -> x.node(2, 1));
        Checks.say(x, 25);
        x.ask(0);
        Checks.due("a question waits only behind a microsecond", 0, () -> x.node(2, 1));
        x.run(1);
        Checks.due("then it does", 1, () -> x.node(2, 1));
        x.run(498);
        x.silence(0, true);
        x.silence(1, true);
        x.run(1000);
        Checks.due("all came through", 0, () -> x.node(0, 1) + x.node(1, 1) + x.node(2, 1));
        Checks.due("a took one of b and the question", 2, () -> x.node(0, 2));
        Checks.due("b took three of a, the question and the answer", 5, () -> x.node(1, 2));
        Checks.due("the tester took four and the answer", 5, () -> x.node(2, 2));
    }

    /**
     * Two frames of one identifier wait, since b, whose own ones come each 700, keeps the bus from 790 to 1650: of 800 with one value, of 1600 with another.
     * The one with the lesser octet, wherever that is, goes first; b has the other one's value then.
     */
    private static void firstOfARow() {
        for (int octet = 0; octet < 8; octet++) {
            for (int lesser = 0; lesser < 2; lesser++) {
                int place = 8 * (octet < 4 ? octet : 7 - octet);
                int first = 16843008 + (lesser == 0 ? 1 : 2 << place);
                int second = 16843008 + (lesser == 0 ? 1 + (1 << place) : 1 << place);
                CarHouse x = Checks.carOf("controller a", "controller b", "task t a 1 1000 0 1", "chart c t 1", "datum c d " + first, "state c s top plain",
                    "edge c s s time", "take c d " + second, "after c s 900", "task u b 1 20000 0 1", "chart e u 1", "datum e f 0",
                    "signal s 64 c d 800" + (octet < 4 ? "" : " turned"), "read s e f 1", "datum e g 170", "signal v 64 e g 700");
                for (int t = 790; t < 1650; t += 8) {
                    x.flip(1, t);
                }
                x.run(1650);
                Checks.due("two wait", 2, () -> x.node(0, 1));
                x.run(560);
                Checks.due("both came", 2, () -> x.node(1, 2));
                Checks.due("octet " + octet + (lesser == 0 ? ": in their order" : ": the second one first"), lesser == 0 ? second : first, () -> x.value(1, 0));
            }
        }
    }

    /** The frame of 700 waits, since its sender sees errors, up to the one of 1000, which comes before it: 64 before 72. */
    private static void firstByIdentifiers() {
        CarHouse x = car("datum c g 99", "signal r 16 c g 700", "read s e f 1", "read r e f 1");
        x.run(690);
        Checks.due("that of 500 came", 4660, () -> x.value(1, 0));
        for (int t = 700; t < 1010; t += 8) {
            x.flip(0, t);
        }
        x.run(320);
        Checks.due("two wait", 2, () -> x.node(0, 1));
        while (x.node(1, 2) < 2) {
            x.run(1);
        }
        Checks.due("the first one has the value of 500", 4660, () -> x.value(1, 0));
        while (x.node(1, 2) < 3) {
            x.run(1);
        }
        Checks.due("the second one that of 700", 99, () -> x.value(1, 0));
    }

    /** The number of stuff bits is told modulo 8: frames with none of them up to a hundred, of 17 bits of check (16 octets) and of 21 (20). */
    private static void stuffBitsOfFlexibleOnes() {
        int[] octets = {0, 1, 2, 3, 4, 5, 6, 7, 8, 12, 16, 20, 24, 32, 48, 64};
        for (int code = 0; code < 16; code++) {
            for (int kind = 2; kind <= 3; kind++) {
                for (int filling : new int[] {0, 255, 85, 15}) {
                    int[] row = new int[octets[code]];
                    Arrays.fill(row, filling);
                    CarHouse x = Checks.carOf("controller a");
                    int acknowledge = new Shown(kind, kind == 2 ? 1365 : 357913941, code, row).show(x, 1);
                    x.run(acknowledge + 8);
                    Checks.due("kind " + kind + ", code " + code + ", octets " + filling, 1, () -> x.node(1, 2));
                    Checks.due("acknowledged", 0, () -> x.bit(acknowledge));
                }
            }
        }
    }

    private static void sixControllers() {
        CarHouse x = Checks.carOf(Faults.many(6, "controller q%"));
        Checks.say(x, 25);
        x.ask(5);
        x.run(300);
        for (int n = 0; n < 7; n++) {
            int node = n;
            Checks.due("node " + n + " took all but its own", n >= 5 ? 1 : 2, () -> x.node(node, 2));
        }
        Checks.thrown("the tester is the sixth behind the first", IndexOutOfBoundsException.class, () -> x.node(7, 0));
        CarHouse one = Checks.carOf("controller a");
        Checks.due("the tester of one controller", 0, () -> one.node(1, 0));
        Checks.thrown("no second one", IndexOutOfBoundsException.class, () -> one.node(2, 0));
    }
}
