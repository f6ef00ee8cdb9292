/** Promise 27, answer, to its edges: the first and the last octet; and what a controller answers at the bounds of each question. */
public final class Promise27Test {
    private static final String[] CAR = {"controller a", "controller b", "task t a 1 20000 0 1", "task u b 1 20000 0 1", "task v a 1 20000 0 1", "chart c t 1",
        "chart e u 1", "chart h v 1", "datum c d -2", "datum e f 258", "datum h i 999999999"};

    public static void main(String[] args) {
        Checks.promise(27);
        bounds();
        sessions();
        reading();
        readBeforeTheTask();
        twelveCharts();
        writing();
        rights();
        wrongKeys();
        keysOfOthers();
        lengths();
        unknown();
        troubles();
        whatClearingLeaves();
        nodesInOrder();
        octetsOfItsOwn();
        passedSince();
        refusals();
        Checks.end("Promise27Test");
    }

    private static void answers(String what, CarHouse x, int controller, String want, int... octets) {
        Checks.same(what, want, Checks.asked(x, controller, 600, octets));
    }

    private static void bounds() {
        CarHouse x = Checks.carOf(CAR);
        Checks.thrown("no answer", IndexOutOfBoundsException.class, () -> x.answer(0));
        answers("one octet", x, 0, "84", 20);
        Checks.due("the first one", 84, () -> x.answer(0));
        Checks.thrown("one behind it", IndexOutOfBoundsException.class, () -> x.answer(1));
        Checks.thrown("one before it", IndexOutOfBoundsException.class, () -> x.answer(-1));
        answers("eleven octets", x, 0, "98 1 0 255 255 255 255 255 255 255 254", 34, 1, 0);
        Checks.due("the last one", 254, () -> x.answer(10));
        Checks.thrown("one behind it", IndexOutOfBoundsException.class, () -> x.answer(11));
        Checks.thrown("one before all", IndexOutOfBoundsException.class, () -> x.answer(-1));
        answers("two octets", x, 0, "89 0", 25);
        Checks.thrown("what the longer one had is gone", IndexOutOfBoundsException.class, () -> x.answer(2));
        Checks.say(x, 34, 1, 0);
        x.ask(0);
        Checks.thrown("none while it is asked", IndexOutOfBoundsException.class, () -> x.answer(0));
    }

    private static void sessions() {
        CarHouse x = Checks.carOf(CAR);
        answers("in session 1 at first", x, 0, "127 39 34", 39, 1);
        for (int s : new int[] {0, 4, 255}) {
            answers("session " + s, x, 0, "127 16 18", 16, s);
        }
        for (int s = 1; s <= 3; s++) {
            answers("session " + s, x, 0, "80 " + s, 16, s);
            Checks.due("a seed in session " + s, s == 1 ? 127 : 103, () -> {
                Checks.asked(x, 0, 600, 39, 1);
                return x.answer(0);
            });
        }
        answers("session 3 was refused nothing", x, 0, "127 16 18", 16, 4);
        Checks.due("it lasts", 103, () -> {
            Checks.asked(x, 0, 600, 39, 1);
            return x.answer(0);
        });
        answers("b is in session 1", x, 1, "127 39 34", 39, 1);
    }

    private static void reading() {
        CarHouse x = Checks.carOf(CAR);
        answers("the first chart", x, 0, "98 1 0 255 255 255 255 255 255 255 254", 34, 1, 0);
        answers("the last chart", x, 0, "98 3 0 0 0 0 0 59 154 201 255", 34, 3, 0);
        answers("the last datum", x, 0, "98 3 31 0 0 0 0 0 0 0 0", 34, 3, 31);
        answers("one behind it", x, 0, "127 34 49", 34, 3, 32);
        answers("the greatest octet", x, 0, "127 34 49", 34, 3, 255);
        answers("one before the first chart", x, 0, "127 34 49", 34, 0, 0);
        answers("one behind the last", x, 0, "127 34 49", 34, 4, 0);
        answers("behind all charts", x, 0, "127 34 49", 34, 13, 0);
        answers("the greatest octet", x, 0, "127 34 49", 34, 255, 0);
        answers("a chart of b at a", x, 0, "127 34 49", 34, 2, 0);
        answers("a chart of b at b", x, 1, "98 2 0 0 0 0 0 0 0 1 2", 34, 2, 0);
        answers("a chart of a at b", x, 1, "127 34 49", 34, 3, 0);
    }

    /** A question that is taken in the microsecond in which the chart's task is done reads the datum as it was before that. */
    private static void readBeforeTheTask() {
        String[] lines = {"controller a", "task t a 1 20000 19000 1", "chart c t 1", "datum c d 7", "state c s top plain", "enter c s d 9"};
        CarHouse probe = Checks.carOf(lines);
        Checks.say(probe, 34, 1, 0);
        probe.ask(0);
        while (probe.node(0, 2) == 0) {
            probe.run(1);
        }
        int taken = probe.time();
        for (int later = -1; later <= 1; later++) {
            lines[1] = "task t a 1 20000 " + (taken + later - 2) + " 1";
            CarHouse x = Checks.carOf(lines);
            answers("the task is done " + later + " behind the taking", x, 0, "98 1 0 0 0 0 0 0 0 0 " + (later < 0 ? 9 : 7), 34, 1, 0);
        }
    }

    private static void twelveCharts() {
        CarHouse x = Checks.carOf("controller a\n" + Faults.many(12, "task t% a 9 20000 0 1") + Faults.many(12, "chart x% t% 1") + "datum xb d 6");
        answers("the twelfth chart", x, 0, "98 12 0 0 0 0 0 0 0 0 6", 34, 12, 0);
        answers("no thirteenth", x, 0, "127 34 49", 34, 13, 0);
        // A second car with fewer charts has none of the first one's.
        x.cut(0);
        Checks.tell(x, "controller a\ntask t a 1 500 0 1\nchart c t 1");
        x.system();
        answers("the first chart", x, 0, "98 1 0 0 0 0 0 0 0 0 0", 34, 1, 0);
        answers("no second one", x, 0, "127 34 49", 34, 2, 0);
        answers("no twelfth one", x, 0, "127 34 49", 34, 12, 0);
        x.cut(12);
        x.system();
        answers("a third car has none at all", x, 0, "127 34 49", 34, 1, 0);
    }

    private static void writes(String what, CarHouse x, int controller, String want, int chart, int datum, long v) {
        Checks.same(what, want, Tester.write(x, controller, 700, chart, datum, v));
    }

    private static void writing() {
        CarHouse x = Checks.carOf(CAR);
        writes("rights are shut", x, 0, "127 46 51", 1, 0, 5);
        writes("also for what is not there", x, 0, "127 46 51", 0, 255, 5);
        Checks.due("nothing was written", -2, () -> x.value(0, 0));
        Tester.openRights(x, 0);
        writes("no chart 0", x, 0, "127 46 49", 0, 0, 5);
        writes("a chart of b", x, 0, "127 46 49", 2, 0, 5);
        writes("no chart 4", x, 0, "127 46 49", 4, 0, 5);
        writes("no datum 32", x, 0, "127 46 49", 3, 32, 5);
        Checks.due("nothing was written", 258, () -> x.value(1, 0));
        writes("the last datum of the last chart", x, 0, "110 3 31", 3, 31, Long.MIN_VALUE);
        Checks.due("the least number", Long.MIN_VALUE, () -> x.value(2, 31));
        writes("the first datum of the first one", x, 0, "110 1 0", 1, 0, Long.MAX_VALUE);
        Checks.due("the greatest number", Long.MAX_VALUE, () -> x.value(0, 0));
        writes("each octet has its place", x, 0, "110 1 1", 1, 1, 0x0102030405060708L);
        Checks.due("the highest first", 0x0102030405060708L, () -> x.value(0, 1));
        answers("and is read so", x, 0, "98 1 1 1 2 3 4 5 6 7 8", 34, 1, 1);
        writes("rights of b are shut", x, 1, "127 46 51", 2, 0, 5);
    }

    /** Rights are opened by a key and shut by a session, also the one that it is in, and by a wrong key; a seed serves once. */
    private static void rights() {
        for (int session = 1; session <= 3; session++) {
            CarHouse x = Checks.carOf(CAR);
            Tester.openRights(x, 0);
            writes("open", x, 0, "110 1 0", 1, 0, 5);
            answers("a session that is none", x, 0, "127 16 18", 16, 4);
            writes("open yet", x, 0, "110 1 0", 1, 0, 6);
            answers("session " + session, x, 0, "80 " + session, 16, session);
            writes("shut", x, 0, "127 46 51", 1, 0, 7);
            Checks.due("6", 6, () -> x.value(0, 0));
        }
        CarHouse wrong = Checks.carOf(CAR);
        Tester.openRights(wrong, 0);
        answers("the seed was used", wrong, 0, "127 39 36", 39, 2, 0, 0, 0, 0);
        writes("open yet", wrong, 0, "110 1 0", 1, 0, 5);
        answers("another seed", wrong, 0, "103 1 60 110 243 98", 39, 1);
        writes("a seed alone does not shut", wrong, 0, "110 1 0", 1, 0, 5);
        answers("a wrong key", wrong, 0, "127 39 53", 39, 2, 0, 0, 0, 0);
        writes("shut", wrong, 0, "127 46 51", 1, 0, 7);
        answers("no seed is open", wrong, 0, "127 39 36", 39, 2, 0, 0, 0, 0);
        CarHouse closed = Checks.carOf(CAR);
        answers("session 2", closed, 0, "80 2", 16, 2);
        answers("a seed", closed, 0, "103 1 158 55 121 177", 39, 1);
        int[] key = Cmac.keyFor(closed);
        answers("session 2 again", closed, 0, "80 2", 16, 2);
        answers("no seed is open then", closed, 0, "127 39 36", key);
        answers("another seed", closed, 0, "103 1 60 110 243 98", 39, 1);
        answers("the first one's key is wrong for it", closed, 0, "127 39 53", key);
    }

    private static void wrongKeys() {
        for (int octet = 0; octet < 4; octet++) {
            CarHouse x = Checks.carOf(CAR);
            answers("session 3", x, 0, "80 3", 16, 3);
            Checks.asked(x, 0, 600, 39, 1);
            int[] key = Cmac.keyFor(x);
            key[2 + octet] ^= 1;
            answers("octet " + octet + " of the key is wrong", x, 0, "127 39 53", key);
            Checks.asked(x, 0, 600, 39, 1);
            answers("the right one is right yet", x, 0, "103 2", Cmac.keyFor(x));
        }
        CarHouse x = Checks.carOf(CAR);
        answers("session 2", x, 0, "80 2", 16, 2);
        for (int n = 1; n <= 3; n++) {
            Checks.due("seed " + n, 103, () -> {
                Checks.asked(x, 0, 600, 39, 1);
                return x.answer(0);
            });
            answers("session 2", x, 0, "80 2", 16, 2);
            Checks.asked(x, 0, 600, 39, 1);
            answers("wrong key " + n, x, 0, n < 3 ? "127 39 53" : "127 39 54", 39, 2, 9, 9, 9, 9);
        }
        answers("no seed behind three", x, 0, "127 39 54", 39, 1);
        answers("no key, though none is open", x, 0, "127 39 54", 39, 2, 9, 9, 9, 9);
        answers("session 1", x, 0, "80 1", 16, 1);
        answers("the session comes first", x, 0, "127 39 34", 39, 1);
        answers("a key does not ask for it", x, 0, "127 39 54", 39, 2, 9, 9, 9, 9);
        answers("session 3", x, 0, "80 3", 16, 3);
        answers("they are not forgotten", x, 0, "127 39 54", 39, 1);
        answers("b has its own", x, 1, "80 2", 16, 2);
        answers("the seventh seed of the car", x, 1, seed(7), 39, 1);
        answers("b's key", x, 1, "103 2", Cmac.keyFor(x));
        // A right key between does not make wrong ones forgotten.
        CarHouse y = Checks.carOf(CAR);
        answers("session 2", y, 0, "80 2", 16, 2);
        for (int n = 1; n <= 3; n++) {
            answers("seed", y, 0, seed(2 * n - 1), 39, 1);
            answers("wrong key " + n, y, 0, n < 3 ? "127 39 53" : "127 39 54", 39, 2, 9, 9, 9, 9);
            answers("seed", y, 0, n < 3 ? seed(2 * n) : "127 39 54", 39, 1);
            if (n < 3) {
                answers("a right key between", y, 0, "103 2", Cmac.keyFor(y));
            }
        }
    }

    private static String seed(long n) {
        long v = 2654435761L * n & 0xffffffffL;
        return "103 1 " + (v >> 24) + " " + (v >> 16 & 255) + " " + (v >> 8 & 255) + " " + (v & 255);
    }

    private static void keysOfOthers() {
        CarHouse x = Checks.carOf(CAR);
        answers("session 2 of a", x, 0, "80 2", 16, 2);
        answers("session 2 of b", x, 1, "80 2", 16, 2);
        answers("a's seed", x, 0, seed(1), 39, 1);
        int[] ofA = Cmac.keyFor(x);
        answers("b has none open", x, 1, "127 39 36", ofA);
        answers("b's seed", x, 1, seed(2), 39, 1);
        answers("a's key is wrong for b", x, 1, "127 39 53", ofA);
        answers("a's key is right for a", x, 0, "103 2", ofA);
        for (int n = 3; n <= 9; n++) {
            answers("seed " + n, x, 0, seed(n), 39, 1);
        }
        CarHouse y = Checks.carOf(CAR);
        Tester.openRights(y, 0);
        answers("a's second seed", y, 0, seed(2), 39, 1);
        int[] second = Cmac.keyFor(y);
        answers("another session of b", y, 1, "80 3", 16, 3);
        writes("a's rights are open", y, 0, "110 1 0", 1, 0, 77);
        answers("and its seed is", y, 0, "103 2", second);
        writes("b's are not", y, 1, "127 46 51", 2, 0, 77);
    }

    private static void lengths() {
        int[][] right = {{16, 2}, {20}, {25}, {34, 1, 0}, {46, 1, 0, 0, 0, 0, 0, 0, 0, 0, 0}, {39, 1}, {39, 2, 0, 0, 0, 0}};
        String[] want = {"80 2", "84", "89 0", "98 1 0 255 255 255 255 255 255 255 254", "127 46 51", "103 1 158 55 121 177", "127 39 53"};
        CarHouse x = Checks.carOf(CAR);
        for (int i = 0; i < right.length; i++) {
            answers("the right length", x, 0, want[i], right[i]);
        }
        for (int[] q : right) {
            CarHouse y = Checks.carOf(CAR);
            for (int n = 1; n <= q.length + 1; n++) {
                if (n != q.length) {
                    int[] other = new int[n];
                    System.arraycopy(q, 0, other, 0, Math.min(n, q.length));
                    answers(n + " octets of " + q[0], y, 0, "127 " + q[0] + " 19", other);
                }
            }
        }
        CarHouse z = Checks.carOf(CAR);
        answers("39 1 with the length of 39 2", z, 0, "127 39 19", 39, 1, 0, 0, 0, 0);
        answers("39 2 with the length of 39 1", z, 0, "127 39 19", 39, 2);
        answers("39 0", z, 0, "127 39 19", 39, 0);
        answers("39 3", z, 0, "127 39 19", 39, 3);
        answers("39 3 with the length of 39 2", z, 0, "127 39 19", 39, 3, 0, 0, 0, 0);
        answers("39 0 with the length of 39 2", z, 0, "127 39 19", 39, 0, 0, 0, 0, 0);
        int[] hundred = new int[100];
        hundred[0] = 46;
        Checks.same("a hundred octets", "127 46 19", Checks.asked(z, 0, 2500, hundred));
    }

    private static void unknown() {
        CarHouse x = Checks.carOf(CAR);
        for (int first : new int[] {0, 15, 17, 19, 21, 24, 26, 33, 35, 38, 40, 45, 47, 80, 127, 255}) {
            answers("first octet " + first, x, 0, "127 " + first + " 17", first);
            answers("and some more", x, 1, "127 " + first + " 17", first, 1, 2);
        }
    }

    /** As many entries as there are, of none to eight: two octets for each. */
    private static void troubles() {
        for (int watches = 0; watches <= 9; watches++) {
            CarHouse x = Checks.carOf("controller a", "controller b", "task t a 1 20000 0 1", "chart c t 1", "datum c d 5", "signal s 8 c d 500",
                Faults.many(watches, "watch s b 9"));
            x.silence(0, true);
            x.run(3000);
            int entries = Math.min(watches, 8);
            StringBuilder want = new StringBuilder("89 ").append(entries);
            for (int i = 1; i <= entries; i++) {
                want.append(' ').append(i).append(" 39");
            }
            for (int controller = 0; controller < 2; controller++) {
                Checks.same(watches + " watches, told by each controller", want.toString(), Checks.asked(x, controller, 900, 25));
            }
            answers("cleared by any", x, 0, "84", 20);
            answers("none is left", x, 1, "89 0", 25);
            for (int i = 0; i < watches; i++) {
                int code = i;
                Checks.due("cleared", 80, () -> x.trouble(code, 0));
            }
        }
    }

    private static CarHouse answered() {
        CarHouse x = Checks.carOf(CAR);
        Checks.asked(x, 0, 600, 34, 1, 0);
        Checks.say(x, 1);
        return x;
    }

    /** The events that there were stay counted, and the watch waits on from what it noted: it failed at 1500 and 3000, and does so at 4500 and 6000. */
    private static void whatClearingLeaves() {
        CarHouse x = Checks.carOf("controller a", "controller b", "task t a 1 20000 0 1", "chart c t 1", "datum c d 5", "signal s 8 c d 500", "watch s b 9");
        x.silence(0, true);
        x.run(3000);
        Checks.due("failed by its second event", 2, () -> x.trouble(0, 2));
        answers("clearing", x, 1, "84", 20);
        Checks.due("no entry", -1, () -> x.trouble(0, 2));
        x.run(4499 - x.time());
        Checks.due("nothing yet", 80, () -> x.trouble(0, 0));
        x.run(1501);
        Checks.due("it failed again at 6000", 1, () -> x.trouble(0, 0) & 1);
        Checks.due("by the fourth event", 4, () -> x.trouble(0, 2));
        CarHouse twin = Checks.carOf("controller a", "controller b", "task t a 1 20000 0 1", "chart c t 1", "datum c d 5", "signal s 8 c d 500", "watch s b 9");
        twin.silence(0, true);
        twin.run(3000);
        answers("clearing", twin, 1, "84", 20);
        twin.run(5999 - twin.time());
        Checks.due("not before", 80, () -> twin.trouble(0, 0));
    }

    private static String[] watched(int controller) {
        return new String[] {"controller a", "controller b", "controller k", "task t k 1 20000 0 1", "chart c t 1", "datum c d 5", "signal s 8 c d 500",
            "watch s " + (controller == 0 ? "a" : "b") + " 9"};
    }

    /** k is silent up to here, so that the watch failed at 1500 and at 3000; then 25 is asked. */
    private static CarHouse asksOf(int controller, int... nodesAndTimes) {
        CarHouse x = Checks.carOf(watched(1 - controller));
        x.silence(2, true);
        for (int i = 0; i < nodesAndTimes.length; i += 2) {
            x.flip(nodesAndTimes[i], nodesAndTimes[i + 1]);
        }
        x.run(3100);
        Checks.say(x, 25);
        x.ask(controller);
        return x;
    }

    /**
     * The question is kept from its controller. Then flips show the other one a frame with the watched signal, and, in one bit time, that one again
     * and the first one the question's: the test passes by it, before the question is answered if that node is the first of both.
     */
    private static void nodesInOrder() {
        for (int asked = 0; asked < 2; asked++) {
            int controller = asked;
            CarHouse twin = asksOf(controller);
            while (twin.node(controller, 2) == 0) {
                twin.run(1);
            }
            int missed = twin.time() - 1;
            int from = missed + 60;
            CarHouse x = new Views(() -> asksOf(controller, controller, missed, 3, missed + 1), 4, from, 340).show(1 - controller, new Shown(0, 64, 8), from + 150)
                .show(1 - controller, new Shown(0, 64, 8), from + 330).show(controller, new Shown(0, 1536 + 2 * controller, 8), from + 330).end();
            Checks.due("the question came by what was shown alone", 1, () -> x.node(controller, 2));
            Checks.due("the test passed", 38, () -> x.trouble(0, 0));
            x.run(500);
            Checks.same("node " + controller + " is asked", controller == 0 ? "89 1 1 39" : "89 1 1 38", Checks.answerOf(x));
        }
    }

    /** What stood behind a question's octets in the car before is no octet of it. */
    private static void octetsOfItsOwn() {
        for (int first : new int[] {20, 25, 16, 39}) {
            for (int second = 0; second <= 3; second++) {
                CarHouse x = Checks.carOf("controller a");
                Checks.asked(x, 0, 600, first, second, 0, 0, 0, 0);
                x.system();
                answers("one octet, where two or more were", x, 0, first == 20 ? "84" : first == 25 ? "89 0" : "127 " + first + " 19", first);
            }
        }
    }

    /** The statuses of entries are those of now: passed in this cycle, not tested in the next one, failed again in that. */
    private static void passedSince() {
        CarHouse x = Checks.carOf(watched(1));
        x.silence(2, true);
        x.run(3000);
        x.silence(2, false);
        x.run(1400);
        answers("passed", x, 0, "89 1 1 38", 25);
        x.silence(2, true);
        x.cycle(true);
        answers("not tested in this cycle", x, 0, "89 1 1 100", 25);
        x.run(3000);
        answers("failed in a second cycle", x, 1, "89 1 1 " + (1 + 2 + 4 + 8 + 32 + 128), 25);
    }

    private static void refusals() {
        for (int i : new int[] {-1, 11, 12, 100, Integer.MIN_VALUE, Integer.MAX_VALUE}) {
            Checks.refused("answer(" + i + ")", IndexOutOfBoundsException.class, Promise27Test::answered, x -> x.answer(i));
        }
        Checks.refused("answer(0) without a car", IndexOutOfBoundsException.class, CarHouse::new, x -> x.answer(0));
        Checks.refused("answer(0) without an answer", IndexOutOfBoundsException.class, () -> Checks.carOf(CAR), x -> x.answer(0));
    }
}
