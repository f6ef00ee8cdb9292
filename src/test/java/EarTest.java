import java.util.Arrays;

/**
 * Promises 12 to 14 and 19: frames of every kind, shown to one node by flips, since a car sends but one kind.
 * The bus is still but for that node's acknowledging, which makes the others flag from six bits behind it on.
 */
public final class EarTest {
    private static final String[] CAR = {
        "controller a", "controller b", "task t a 1 20000 0 1", "task u b 1 20000 0 1", "chart c t 1", "chart e u 1", "datum c d 5", "datum e f 1",
        "signal g 24 c d 5000", "signal k 8 c d 6000", "protect a 6000 3", "read g e f 4", "watch g b 9"};

    public static void main(String[] args) {
        Checks.promise(12);
        allKinds();
        wrongChecks();
        fixedBits();
        taken();
        passedOver();
        protectedOnes();
        transferred();
        oneBehindAnother();
        onlyAtAcknowledge();
        Checks.end("EarTest");
    }

    private static void allKinds() {
        for (int kind = 0; kind < 6; kind++) {
            for (int code = 0; code < 16; code++) {
                CarHouse x = Checks.carOf("controller a");
                String what = "kind " + kind + " with code " + code;
                int identifier = kind % 2 == 0 ? 1234 : 0x15aa5555;
                int acknowledge = new Shown(kind, identifier, code).show(x, 1);
                x.run(acknowledge + 7);
                Checks.due(what + " is acknowledged", 0, () -> x.bit(acknowledge));
                Checks.due(what + " is not taken before its sixth end", 0, () -> x.node(1, 2));
                Checks.due(what + " has no errors", 1, () -> x.error(0, 1) == 0 && x.error(-1, 0) == 1 ? 1 : 0);
                x.run(1);
                Checks.due(what + " is taken", 1, () -> x.node(1, 2));
                x.run(1);
                Checks.due(what + " is over", 6, () -> x.node(1, 0));
            }
        }
    }

    private static void error(String what, CarHouse x, int kind, int t) {
        x.run(t + 1);
        Checks.due(what + ": an error of kind", kind, () -> x.error(0, 0));
        Checks.due(what + ": at the tester", 1, () -> x.error(0, 1));
        Checks.due(what + ": at a time", t, () -> x.error(0, 2));
        Checks.due(what + ": not taken", 0, () -> x.node(1, 2));
    }

    private static void wrongChecks() {
        for (int kind = 0; kind < 6; kind++) {
            for (int code = 0; code < 16; code += 3) {
                for (int bit = 0; bit < 15; bit += 7) {
                    Shown shown = new Shown(kind, 77, code);
                    shown.wrongCheck = 1 << bit;
                    CarHouse x = Checks.carOf("controller a");
                    int acknowledge = shown.show(x, 1);
                    // Nobody acknowledges it, and it is told at the bit behind that.
                    error("a wrong check of kind " + kind, x, 3, acknowledge + 1);
                    Checks.due("not acknowledged", 1, () -> x.bit(acknowledge));
                }
            }
        }
    }

    private static void fixedBits() {
        for (int kind = 2; kind < 4; kind++) {
            int reserved = kind == 2 ? 15 : 34;
            CarHouse form = Checks.carOf("controller a");
            Shown wrong = new Shown(kind, 77, 5).with(reserved, 1);
            wrong.show(form, 1);
            error("1 at bit " + reserved, form, 2, Shown.START + wrong.at.get(reserved));
            int[] free = kind == 2 ? new int[] {12, 16, 17} : new int[] {12, 32, 35, 36};
            for (int i : free) {
                accepted("bit " + i + " of kind " + kind, new Shown(kind, 77, 5).with(i, i == 12 && kind == 3 ? 0 : 1));
            }
            for (int i = 0; i < 4; i++) {
                Shown count = new Shown(kind, 77, 13);
                count.wrongCount = i;
                CarHouse x = Checks.carOf("controller a");
                count.show(x, 1);
                error("a wrong count", x, 1, Shown.START + count.countEnd);
            }
            for (int i = 0; i < 6; i++) {
                Shown like = new Shown(kind, 77, 7);
                like.wrongFixed = i;
                CarHouse x = Checks.carOf("controller a");
                like.show(x, 1);
                error("a fixed bit like the one before", x, 1, Shown.START + like.fixedAt);
            }
        }
        accepted("bit 12 of kind 1", new Shown(1, 77, 5).with(12, 0));
        accepted("bit 34 of kind 1", new Shown(1, 77, 5).with(34, 1));
        accepted("bit 12 of kind 5", new Shown(5, 77, 5).with(12, 0));
    }

    private static void accepted(String what, Shown shown) {
        CarHouse x = Checks.carOf("controller a");
        int acknowledge = shown.show(x, 1);
        x.run(acknowledge + 8);
        Checks.due(what + " is as it comes", 1, () -> x.node(1, 2));
    }

    /** A frame of kind 0 with eight octets, by whatever code, is what a controller takes signals from. */
    private static void taken() {
        for (int code = 8; code < 16; code++) {
            CarHouse x = Checks.carOf(CAR);
            int acknowledge = new Shown(0, 64, code, 1, 2, 3).show(x, 1);
            x.run(acknowledge + 7);
            Checks.due("not yet", 1, () -> x.value(1, 0));
            x.run(1);
            Checks.due("read", 0x30201, () -> x.value(1, 0));
            Checks.due("an event waits", 1, () -> x.chart(1, 1));
            Checks.due("taken", 1, () -> x.node(1, 2));
        }
    }

    private static void nothing(String what, int node, Shown shown) {
        CarHouse x = Checks.carOf(CAR);
        x.run(shown.show(x, node) + 8);
        Checks.due(what + " is taken", 1, () -> x.node(node, 2));
        Checks.due(what + " is not read", 1, () -> x.value(1, 0));
        Checks.due(what + " is not refused", 0, () -> x.counted(1));
    }

    private static void passedOver() {
        nothing("kind 1", 1, new Shown(1, 64, 8, 1, 2, 3));
        nothing("kind 2", 1, new Shown(2, 64, 8, 1, 2, 3));
        nothing("kind 4", 1, new Shown(4, 64, 8, 1, 2, 3));
        nothing("seven octets", 1, new Shown(0, 64, 7, 1, 2, 3));
        nothing("an identifier that is no frame's", 1, new Shown(0, 65, 8, 1, 2, 3));
        nothing("an identifier before all", 1, new Shown(0, 56, 8, 1, 2, 3));
        nothing("an identifier of 0", 1, new Shown(0, 0, 8, 1, 2, 3));
        nothing("an identifier behind all", 1, new Shown(0, 80, 8, 1, 2, 3));
        nothing("an identifier of no message", 1, new Shown(0, 1538, 8, 1, 2, 3));
        nothing("an identifier far away", 1, new Shown(0, 2047, 8, 1, 2, 3));
        nothing("a frame at the tester", 2, new Shown(0, 64, 8, 1, 2, 3));
        nothing("a protected frame at the tester", 2, new Shown(0, 72, 8, 1, 2, 3));
        nothing("a frame at its own controller", 0, new Shown(0, 64, 8, 1, 2, 3));
    }

    private static void protectedOnes() {
        for (int counter : new int[] {0, 1, 64, 65, 255}) {
            CarHouse x = Checks.carOf(CAR);
            x.run(new Shown(0, 72, 8, 1, 2, 3, counter, 5, 6, 7, 8).show(x, 1) + 8);
            Checks.due("taken", 1, () -> x.node(1, 2));
            Checks.due("refused, since its code is wrong", 1, () -> x.counted(1));
        }
    }

    /** The tester sees 0 at the last end of its question, and sends it again; but it has reached the other side already. */
    private static void transferred() {
        CarHouse twin = Checks.carOf(CAR);
        Checks.say(twin, 16, 2);
        twin.ask(1);
        twin.run(10);
        while (twin.node(2, 0) == 1) {
            twin.run(1);
        }
        CarHouse x = Checks.carOf(CAR);
        x.flip(2, twin.time() - 1);
        Checks.say(x, 16, 2);
        x.ask(1);
        Checks.due("question and answer are done", 2, () -> x.run(800));
        Checks.due("b took the question twice", 2, () -> x.node(1, 2));
        Checks.due("the tester took one answer", 1, () -> x.node(2, 2));
        Checks.same("the answer", "80 2", Checks.answerOf(x));
        // At the sixth end b sees 0: a takes the frame, but it is not for a, so nothing is answered yet.
        CarHouse y = Checks.carOf(CAR);
        y.flip(1, twin.time() - 2);
        Checks.say(y, 16, 2);
        y.ask(1);
        y.run(twin.time() + 5);
        Checks.due("a took the question", 1, () -> y.node(0, 2));
        Checks.due("b did not", 0, () -> y.node(1, 2));
        Checks.due("b has nothing to send", 0, () -> y.node(1, 1));
        y.run(600);
        Checks.same("it comes again", "80 2", Checks.answerOf(y));
    }

    /** Frames whose check is 0 before COUNT, as the one that was told so far is: the node puts 0 at ACKNOWLEDGE alone. */
    private static void onlyAtAcknowledge() {
        int[][] octets = {{1, 13, 138}, {0, 100, 114}};
        for (int kind = 2; kind <= 3; kind++) {
            int identifier = kind == 2 ? 85 : 12345678;
            Checks.due("the check before COUNT", 0, new Shown(kind, identifier, 3, octets[kind - 2])::register);
            CarHouse x = Checks.carOf("controller a");
            int acknowledge = new Shown(kind, identifier, 3, octets[kind - 2]).show(x, 0);
            x.run(acknowledge + 8);
            StringBuilder zeros = new StringBuilder();
            for (int t = 0; t <= acknowledge + 6; t++) {
                zeros.append(x.bit(t) == 0 ? " " + (t - acknowledge) : "");
            }
            Checks.same("the zeros on the bus, from ACKNOWLEDGE on", " 0", zeros.toString());
            Checks.due("it was taken", 1, () -> x.node(0, 2));
        }
    }

    /** Whatever a node took before, the next frame is read by its own bits alone. */
    private static void oneBehindAnother() {
        for (int first = 0; first < 36; first++) {
            for (int second = 0; second < 6; second++) {
                CarHouse x = Checks.carOf("controller a", "controller b", "task t b 1 20000 0 1", "chart c t 1", "datum c d 5", "signal s 64 c d 5000",
                    "task u a 1 20000 0 1", "chart e u 1", "datum e f 0", "read s e f 1");
                int[] octets = new int[8];
                Arrays.fill(octets, new int[] {0, 255, 85, 15, 51, 1}[first / 6]);
                x.run(new Shown(first % 6, first % 6 % 2 == 1 ? 268435455 : 85, 5, octets).show(x, 0) + 60);
                Checks.due("the first frame, of kind " + first % 6, 1, () -> x.node(0, 2));
                x.run(new Shown(second, second % 2 == 1 ? 268435455 : 64, 8, 1, 2, 3, 4, 5, 6, 7, 8).show(x, 0) + 60);
                Checks.due("the second one, of kind " + second, 2, () -> x.node(0, 2));
                Checks.due("its octets", second == 0 ? 0x0807060504030201L : 0, () -> x.value(1, 0));
            }
        }
    }
}
