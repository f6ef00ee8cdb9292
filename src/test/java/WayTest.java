import java.util.ArrayList;
import java.util.Arrays;
import java.util.List;

/**
 * Promises 9, 12, 23 and 26: from when on a frame of the TRANSFER is on its way, and to whom.
 * A FIRST frame is kept from its taker by a flip at the sixth END; then flips show nodes frames that nobody sends, each at its own time.
 */
public final class WayTest {
    /** Which node takes a frame of an identifier, and how many microseconds behind the one in which the taker gets FIRST. */
    private static final class Show {
        private final int node;
        private final int identifier;
        private final int later;

        Show(int node, int identifier, int later) {
            this.node = node;
            this.identifier = identifier;
            this.later = later;
        }
    }

    /** A car whose tester asks, the node that FIRST is kept from, and what the nodes see from then on. */
    private static final class Scene {
        private static final int GAP = 160;
        private final int controllers;
        private final int asked;
        private final int[] question;
        private final int taker;
        private final int missed;
        private final int shownEnd;
        private final List<int[]> flips = new ArrayList<>();

        Scene(int controllers, int asked, int taker, int... question) {
            this.controllers = controllers;
            this.asked = asked;
            this.taker = taker;
            this.question = question;
            this.missed = missedAt();
            this.shownEnd = missed + GAP;
        }

        private CarHouse begin() {
            StringBuilder lines = new StringBuilder();
            for (int c = 0; c < controllers; c++) {
                lines.append("controller k").append(c).append('\n');
            }
            lines.append("task t k").append(asked).append(" 1 20000 0 1\nchart x t 1\ndatum x d 258");
            CarHouse x = new CarHouse();
            Checks.tell(x, lines.toString());
            x.system();
            Checks.say(x, question);
            x.ask(asked);
            for (int[] flip : flips) {
                x.flip(flip[0], flip[1]);
            }
            return x;
        }

        /** The bit time of the sixth END of the frame that the taker would take first. */
        private int missedAt() {
            CarHouse x = begin();
            while (x.node(taker, 2) == 0) {
                x.run(1);
            }
            return x.time() - 1;
        }

        /** The flips are found bit by bit: what the bus is at a bit time does not depend on the flips of that time. */
        Scene show(Show... shows) {
            int[][] seen = new int[controllers + 1][shownEnd + 40];
            for (int[] row : seen) {
                Arrays.fill(row, 1);
            }
            seen[taker][missed] = 0;
            int last = shownEnd;
            for (Show show : shows) {
                List<Integer> wire = wireOf(show.identifier);
                int end = shownEnd + show.later;
                for (int i = 0; i < wire.size(); i++) {
                    seen[show.node][end - wire.size() + 1 + i] = wire.get(i);
                }
                last = Math.max(last, end);
            }
            for (int t = missed; t <= last + 1; t++) {
                CarHouse x = begin();
                x.run(t + 1);
                for (int n = 0; n <= controllers; n++) {
                    if (x.bit(t) != seen[n][t]) {
                        flips.add(new int[] {n, t});
                    }
                }
            }
            return this;
        }

        /** The scene up to so many microseconds behind the one in which the taker gets FIRST. */
        CarHouse until(int later) {
            CarHouse x = begin();
            x.run(shownEnd + later + 1);
            return x;
        }
    }

    /** A frame of kind 0 with eight octets up to its sixth END, as a node sees it. */
    private static List<Integer> wireOf(int identifier) {
        List<Integer> plain = new ArrayList<>();
        int check = 0;
        for (int i = 0; i < 83; i++) {
            int bit = i >= 1 && i <= 11 ? identifier >> 11 - i & 1 : i == 15 || i >= 19 && i % 2 == 0 ? 1 : 0;
            plain.add(bit);
            boolean differs = (check >> 14 & 1) != bit;
            check = (check << 1 & 0x7fff) ^ (differs ? 17817 : 0);
        }
        for (int i = 14; i >= 0; i--) {
            plain.add(check >> i & 1);
        }
        List<Integer> wire = new ArrayList<>();
        int same = 0;
        int last = -1;
        for (int bit : plain) {
            wire.add(bit);
            same = bit == last ? same + 1 : 1;
            last = bit;
            if (same == 5) {
                last = 1 - bit;
                same = 1;
                wire.add(last);
            }
        }
        for (int i = 0; i < 9; i++) {
            wire.add(i == 1 ? 0 : 1);
        }
        return wire;
    }

    public static void main(String[] args) {
        Checks.promise(9);
        for (int controllers = 1; controllers <= 6; controllers++) {
            questionFlow(controllers, 0);
            questionFlow(controllers, controllers - 1);
        }
        answerFlow();
        otherNodes();
        Checks.end("WayTest");
    }

    private static void waits(String what, CarHouse x, int node, int want) {
        Checks.due(what + ": frames in the row of " + node, want, () -> x.node(node, 1));
    }

    private static void took(String what, CarHouse x, int node, int want) {
        Checks.due(what + ": frames that " + node + " took", want, () -> x.node(node, 2));
    }

    /** The controller answers FIRST by a FLOW, which goes on the bus in step 7: before, the tester finds none on its way. */
    private static void questionFlow(int controllers, int c) {
        int tester = controllers;
        int[] question = {255, 255, 255, 255, 255, 255, 255, 255};
        Show first = new Show(c, 1536 + 2 * c, 0);
        for (int later = -1; later <= 1; later++) {
            String what = "question to " + c + " of " + controllers + ", the tester takes " + later + " later";
            Scene scene = new Scene(controllers, c, c, question).show(first, new Show(tester, 1537 + 2 * c, later));
            CarHouse x = scene.until(Math.max(later, 0));
            took(what, x, c, 1);
            took(what, x, tester, 1);
            waits(what + ": the flow alone", x, c, 1);
            waits(what + ": a consecutive frame by a flow on its way", x, tester, later == 1 ? 1 : 0);
            Checks.due(what + ": still asked", c, x::asking);
            x.run(1500);
            Checks.same(what + ": the answer", "127 255 17", Checks.answerOf(x));
            Checks.due(what + ": nothing ended", 0, () -> x.counted(4));
            waits(what + ": all done", x, c, 0);
            waits(what + ": all done", x, tester, 0);
        }
        Scene before = new Scene(controllers, c, c, question).show(first, new Show(tester, 1537 + 2 * c, 1));
        waits("before the tester takes", before.until(0), tester, 0);
    }

    /** The tester answers FIRST by a FLOW; controllers come before it in step 4, and find it from the next microsecond on. */
    private static void answerFlow() {
        int c = 1;
        int tester = 2;
        for (int later = -1; later <= 1; later++) {
            String what = "an answer, the controller takes " + later + " later";
            Scene scene = new Scene(2, c, tester, 34, 1, 0).show(new Show(tester, 1537 + 2 * c, 0), new Show(c, 1536 + 2 * c, later));
            CarHouse x = scene.until(Math.max(later, 0));
            took(what, x, c, 2);
            took(what, x, tester, 1);
            waits(what + ": the flow alone", x, tester, 1);
            waits(what + ": a consecutive frame by a flow on its way", x, c, later == 1 ? 1 : 0);
            x.run(1500);
            Checks.same(what + ": the answer", "98 1 0 0 0 0 0 0 0 1 2", Checks.answerOf(x));
            Checks.due(what + ": nothing ended", 0, () -> x.counted(4));
        }
    }

    /** What goes to one node reaches nobody by the same identifier at another one (node 1 also took FIRST as it was sent). */
    private static void otherNodes() {
        int[] question = {255, 255, 255, 255, 255, 255, 255, 255};
        Show[][] others = {
            {new Show(1, 1536, 0)}, {new Show(2, 1536, 0)}, {new Show(0, 1538, 0)}, {new Show(0, 1537, 0)}, {new Show(0, 1540, 0)}, {new Show(0, 1, 0)}};
        for (Show[] shows : others) {
            String what = "identifier " + shows[0].identifier + " at node " + shows[0].node;
            CarHouse x = new Scene(2, 0, 0, question).show(shows).until(0);
            took(what, x, shows[0].node, shows[0].node == 1 ? 2 : 1);
            waits(what, x, 0, 0);
            x.run(900);
            Checks.due(what + ": the sender waited for a flow in vain", 1, () -> x.counted(4));
        }
        Show first = new Show(0, 1536, 0);
        Show[] flows = {new Show(2, 1539, 1), new Show(1, 1537, 1), new Show(2, 1541, 1)};
        for (Show flow : flows) {
            String what = "identifier " + flow.identifier + " at node " + flow.node + " behind FIRST";
            CarHouse x = new Scene(2, 0, 0, question).show(first, flow).until(1);
            took(what, x, flow.node, flow.node == 1 ? 2 : 1);
            waits(what + ": the flow", x, 0, 1);
            waits(what + ": nothing reached the sender", x, 2, 0);
            x.run(1500);
            Checks.same(what + ": the answer", "127 255 17", Checks.answerOf(x));
        }
    }
}
