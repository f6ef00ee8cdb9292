/** Promise 19, value, to its edges: the first and the last datum, the least and the greatest numbers, sums that wrap around. */
public final class Promise19Test {
    public static void main(String[] args) {
        Checks.promise(19);
        bounds();
        thirtyTwo();
        sums();
        wrapping();
        atOnce();
        fortyFrames();
        withoutRoomForEvents();
        timeOfAnEvent();
        timeOfOthers();
        ticks();
        orderOfActs();
        orderOfEdges();
        refusals();
        Checks.end("Promise19Test");
    }

    private static CarHouse chart(String... lines) {
        return Checks.carOf("controller a", "task t a 1 1000 0 1", "chart x t 50", String.join("\n", lines));
    }

    private static void holds(String what, CarHouse x, int datum, long want) {
        Checks.due(what + ": value(0, " + datum + ") at " + x.time(), want, () -> x.value(0, datum));
    }

    private static void bounds() {
        CarHouse x = chart("datum x a -999999999", "datum x b 999999999", "datum x c -0", "datum x d -1");
        holds("the least number of a text", x, 0, -999999999);
        holds("the greatest one", x, 1, 999999999);
        holds("0 with a sign", x, 2, 0);
        holds("below 0", x, 3, -1);
        for (int datum = 4; datum < 32; datum++) {
            holds("not told", x, datum, 0);
        }
        CarHouse none = chart();
        holds("none told", none, 0, 0);
        holds("none told", none, 31, 0);
    }

    private static void thirtyTwo() {
        StringBuilder lines = new StringBuilder();
        for (int i = 0; i < 32; i++) {
            lines.append("datum x d").append(i).append(' ').append(100 + i).append('\n');
        }
        CarHouse x = chart(lines.toString(), "state x s top plain", "enter x s d31 5 more", "enter x s d0 7");
        for (int i = 0; i < 32; i++) {
            holds("of thirty-two", x, i, 100 + i);
        }
        x.run(2);
        holds("an act on the last one", x, 31, 136);
        holds("an act on the first one", x, 0, 7);
        holds("none on the others", x, 30, 130);
        x.system();
        holds("another car begins anew", x, 31, 131);
        // A second car with fewer data has zeros where the first one had others.
        x.cut(0);
        Checks.tell(x, "controller a\ntask t a 1 1000 0 1\nchart x t 50\ndatum x d 4");
        x.system();
        holds("told", x, 0, 4);
        holds("not told", x, 31, 0);
        x.cut(x.cut(46));
        x.system();
        Checks.due("a chart yet", 1, () -> x.count(2));
        holds("none told in a third one", x, 0, 0);
    }

    private static void sums() {
        CarHouse x = chart("datum x n 999999999", "datum x m -999999999", "datum x o 1", "state x s top plain", "enter x s n 999999999 more",
            "enter x s m -999999999 more", "enter x s o 0", "enter x s o -999999999 more", "enter x s o 999999999 more");
        x.run(2);
        holds("beyond a text's numbers", x, 0, 1999999998L);
        holds("below them", x, 1, -1999999998L);
        holds("made 0, then less, then more", x, 2, 0);
        CarHouse big = chart("datum x n 0", "datum x m 31", "datum x k 0", "state x s top plain", "edge x s s 0 if k lt m", "take x k 1 more",
            "take x n 999999999 more");
        big.run(2);
        holds("beyond 32 bits", big, 0, 31 * 999999999L);
    }

    /** 64 bits, wrapping: the greatest number and 1 is the least one, and the other way. */
    private static void wrapping() {
        // Each time of s leads to s again; once 7 is written to k, the first edge does so.
        String[] lines = {"datum x n 0", "datum x m 0", "datum x k 0", "state x s top plain", "edge x s s time if k eq 7", "take x n 1 more", "take x m -1 more",
            "take x k 0", "edge x s s time", "after x s 900"};
        CarHouse x = chart(lines);
        Tester.openRights(x, 0);
        Checks.same("write", "110 1 0", Tester.write(x, 0, 900, 1, 0, Long.MAX_VALUE));
        holds("the greatest number", x, 0, Long.MAX_VALUE);
        Checks.same("write", "110 1 1", Tester.write(x, 0, 900, 1, 1, Long.MIN_VALUE));
        holds("the least number", x, 1, Long.MIN_VALUE);
        Checks.same("write", "110 1 2", Tester.write(x, 0, 900, 1, 2, 7));
        x.run(3000);
        holds("one more than the greatest", x, 0, Long.MIN_VALUE);
        holds("one less than the least", x, 1, Long.MAX_VALUE);
        holds("once", x, 2, 0);
    }

    /** What is read becomes the datum when the frame is taken, also before the chart has started; so does what is written. */
    private static void atOnce() {
        CarHouse x = Checks.carOf("controller a", "controller b", "task t a 1 20000 0 1", "task u b 1 20000 19990 1", "chart c t 1", "chart e u 1", "datum c d 77",
            "datum e f 5", "state e s top plain", "signal s 8 c d 500", "read s e f 3");
        x.run(501);
        while (x.node(1, 2) == 0) {
            Checks.due("not before it is taken", 5, () -> x.value(1, 0));
            x.run(1);
        }
        Checks.due("with the very microsecond in which it is", 77, () -> x.value(1, 0));
        Checks.due("the chart has not started", -3, () -> x.active(1, 0));
        Tester.openRights(x, 1);
        Checks.same("a datum that was not told", "110 2 31", Tester.write(x, 1, 900, 2, 31, -2));
        Checks.due("is written, too", -2, () -> x.value(1, 31));
        Checks.due("the chart has not started", -3, () -> x.active(1, 0));
        x.run(19992 - x.time());
        Checks.due("started", 1, () -> x.active(1, 0));
        Checks.due("what was written stays", -2, () -> x.value(1, 31));
    }

    /** A time speaks when the state was entered so long ago, or longer, when the task is done; not one tick before. */
    /** Each of forty frames brings its own value to the other controller, with a key and without. */
    private static void fortyFrames() {
        for (String protect : new String[] {"", "protect a 9000 5"}) {
            StringBuilder lines = new StringBuilder("controller a\ncontroller b\ntask t a 1 20000 0 1\ntask u a 1 20000 0 1\ntask v b 1 20000 0 1\ntask w b 1 20000 0 1\n"
                + "chart c0 t 1\nchart c1 u 1\nchart e0 v 1\nchart e1 w 1\n");
            for (int i = 0; i < 40; i++) {
                String place = i / 20 + " d" + i;
                lines.append("datum c").append(place).append(' ').append(1000 + 77 * i).append("\ndatum e").append(place).append(" 0\n");
            }
            for (int i = 0; i < 40; i++) {
                lines.append("signal s").append(i).append(protect.isEmpty() ? " 64 c" : " 24 c").append(i / 20).append(" d").append(i).append(" 9000\n");
                lines.append("read s").append(i).append(" e").append(i / 20).append(" d").append(i).append(" 0\n");
            }
            CarHouse x = Checks.carOf(lines.toString(), protect);
            x.run(9000);
            Checks.due("forty frames", 40, () -> x.count(4));
            Checks.due("all came", 40, () -> x.run(6500));
            for (int i = 0; i < 40; i++) {
                int n = i;
                Checks.due("the value of frame " + i, 1000 + 77 * i, () -> x.value(2 + n / 20, n % 20));
            }
        }
    }

    /** Seventeen reads of one frame: the last one's event is lost, its value is not; nor is that of the next frame, whose events are all lost. */
    private static void withoutRoomForEvents() {
        CarHouse x = Checks.carOf("controller a", "controller b", "task t a 1 1000 700 1", "chart c t 1", "datum c n 5", "state c s top plain", "enter c s n 6",
            "task u b 1 20000 19000 1", "chart e u 1", "datum e f 0", "datum e last 0", "signal g 8 c n 500", Faults.many(16, "read g e f 9"), "read g e last 9");
        x.run(690);
        Checks.due("sixteen wait", 16, () -> x.chart(1, 1));
        Checks.due("one is lost", 1, () -> x.counted(2));
        Checks.due("the value of the one that is lost", 5, () -> x.value(1, 1));
        x.run(500);
        Checks.due("all of the next frame are lost", 18, () -> x.counted(2));
        Checks.due("the first one's next value", 6, () -> x.value(1, 0));
        Checks.due("the last one's", 6, () -> x.value(1, 1));
    }

    /** What an event enters is entered at its own time: 1002, not when the call before was, nor when the last of the times was due. */
    private static void timeOfAnEvent() {
        for (String more : new String[] {"", "after y s 100\nedge y s r time\n"}) {
            CarHouse x = Checks.carOf("controller a", "controller b", "task t a 1 20000 0 1", "task u b 1 1000 0 1", "chart x t 5", "datum x n 5", "chart y u 5",
                "datum y d 0", "datum y k 0", "signal g 8 x n 500", "read g y d 9", "state y s top plain", "state y r top plain", "state y z top plain",
                "state y w top plain", more + "edge y s z 9", "edge y r z 9", "after y z 1500", "edge y z w time", "take y k 1");
            x.run(1002);
            Checks.due("the event happened", 3, () -> x.active(1, 0));
            x.run(1000);
            Checks.due("1000 behind it", 0, () -> x.value(1, 1));
            x.run(1000);
            Checks.due("2000 behind it", 1, () -> x.value(1, 1));
        }
    }

    /** The time of a state that is not active, or is not any more, does not speak: no chain comes by it, though the datum would let one. */
    private static void timeOfOthers() {
        for (String more : new String[] {"after y r 100", "after y q 300\nedge y q s 0"}) {
            CarHouse x = Checks.carOf("controller a", "controller b", "task t a 1 20000 0 1", "task u b 1 1000 0 1", "chart x t 5", "datum x n 5", "chart y u 5",
                "datum y d 0", "signal g 8 x n 500", "read g y d 0", more.contains(" q ") ? "state y q top plain" : "", "state y s top plain", "state y r top plain",
                "edge y s r 0 if d eq 5", more);
            int s = more.contains(" q ") ? 2 : 1;
            x.run(1002);
            Checks.due("the datum came", 5, () -> x.value(1, 0));
            Checks.due("nothing speaks, so nothing follows", s, () -> x.active(1, 0));
        }
    }

    private static void ticks() {
        for (int ticks : new int[] {1, 999, 1000, 1001, 1999, 2000, 2001}) {
            CarHouse x = chart("datum x n 0", "state x s top plain", "state x z top plain", "edge x s z time", "take x n 1 more", "after x s " + ticks);
            x.run(2);
            holds("at the start", x, 0, 0);
            x.run(999);
            holds("the task is not done", x, 0, 0);
            x.run(1);
            holds("1000 behind the entry, of " + ticks, x, 0, ticks <= 1000 ? 1 : 0);
            x.run(1000);
            holds("2000 behind the entry, of " + ticks, x, 0, ticks <= 2000 ? 1 : 0);
        }
        CarHouse longest = chart("datum x n 0", "state x s top plain", "edge x s s time", "take x n 1 more", "after x s 20000");
        longest.run(20000);
        holds("the longest never comes", longest, 0, 0);
        CarHouse late = Checks.carOf("controller a", "task t a 1 19500 490 1", "chart x t 1", "datum x n 0", "state x s top plain", "edge x s s time",
            "take x n 1 more", "after x s 19500");
        late.run(19991);
        holds("19499", late, 0, 0);
        late.run(1);
        holds("19500", late, 0, 1);
        // It speaks once for each entry, and the time of what it leads to counts from when it was due.
        CarHouse chain = chart("datum x n 0", "state x s top plain", "state x z top plain", "edge x s z time", "take x n 1 more", "after x s 400",
            "edge x z s time", "take x n 10 more", "after x z 600");
        chain.run(1002);
        holds("402 and 1002", chain, 0, 11);
        chain.run(1000);
        holds("1402 and 2002", chain, 0, 22);
        CarHouse once = chart("datum x n 0", "state x o top plain", "state x p o plain", "state x q o plain", "edge x o o time if n eq 31", "edge x p q time",
            "take x n 1 more", "after x o 10", "after x p 5");
        once.run(3002);
        holds("a time without an edge that is taken is spoken, too", once, 0, 1);
        Checks.due("and asked once", 1, () -> once.chart(0, 6));
    }

    /**
     * For each two of some states a datum that the one makes 1 and the other 2: it tells which was entered, or left, last.
     * They are o 1, a 2, a1 3, a2 4 in a1, b 5, b1 6; a and b stand side by side in o.
     */
    private static void orderOfActs() {
        String[] names = {"o", "a", "a1", "a2", "b", "b1"};
        int[] depth = {1, 2, 3, 4, 2, 3};
        for (String when : new String[] {"enter", "leave"}) {
            StringBuilder lines = new StringBuilder("state x o top split\nstate x a o plain\nstate x a1 a plain\nstate x a2 a1 plain\nstate x b o plain\n"
                + "state x b1 b plain\nstate x z top plain\nedge x o z 0\n");
            StringBuilder want = new StringBuilder();
            int data = 0;
            for (int i = 0; i < names.length; i++) {
                for (int k = i + 1; k < names.length; k++) {
                    lines.append("datum x d").append(data).append(" 0\n");
                    lines.append(when).append(" x ").append(names[k]).append(" d").append(data).append(" 2\n");
                    lines.append(when).append(" x ").append(names[i]).append(" d").append(data).append(" 1\n");
                    boolean firstGoesFirst = depth[i] == depth[k] || (when.equals("enter") ? depth[i] < depth[k] : depth[i] > depth[k]);
                    want.append(firstGoesFirst ? 2 : 1);
                    data++;
                }
            }
            CarHouse x = chart(lines.toString());
            x.run(2);
            StringBuilder got = new StringBuilder();
            for (int d = 0; d < data; d++) {
                got.append(x.value(0, d));
            }
            Checks.same(when + ": by depth, then by number", want.toString(), got.toString());
        }
        CarHouse x = chart("datum x n 0", "state x a top plain", "state x b top plain", "edge x a b 0", "enter x b n 5", "take x n 1", "leave x a n 3 more",
            "take x n 10 more", "enter x b n 100 more", "take x n 20 more");
        x.run(2);
        holds("exit, edge, entry, each in the order of lines", x, 0, 105);
        CarHouse y = chart("datum x n 0", "state x a top plain", "state x b top plain", "edge x a b 0", "take x n 10 more", "leave x a n 3", "take x n 20 more");
        y.run(2);
        holds("the exit comes before the edge", y, 0, 33);
    }

    /** Edges that are ready at once, in regions of a split one: the deepest first, then by number; one that would leave what another leaves is not taken. */
    private static void orderOfEdges() {
        String states = "datum x n 0\nstate x s top split\nstate x p s plain\nstate x q s plain\nstate x r s plain\nstate x p1 p plain\nstate x p2 p plain\n"
            + "state x q1 q plain\nstate x q2 q1 plain\nstate x q3 q1 plain\nstate x r1 r plain\nstate x r2 r plain\nafter x s 600\n";
        CarHouse deep = chart(states, "edge x p1 p2 0", "take x n 1", "edge x q2 q3 0", "take x n 2", "edge x r1 r2 0", "take x n 5 more");
        deep.run(2);
        // q2 first, then p1, then r1: 2, 1, 6.
        holds("the deepest, then by number", deep, 0, 6);
        CarHouse conflict = chart(states, "datum x k 0", "edge x p1 p2 0", "take x n 1 more", "edge x p p 0 if k eq 0", "take x n 100 more", "edge x r1 r2 0",
            "take x n 10 more", "take x k 1");
        conflict.run(2);
        // Of the first two only the deeper one, of the first step; then the third one, of the same step, makes k 1.
        holds("one behind them is not taken", conflict, 0, 11);
        CarHouse between = chart(states, "edge x p1 p2 0", "take x n 1 more", "edge x p1 p1 0", "take x n 100 more", "edge x r1 r2 0", "take x n 10 more",
            "edge x q1 q1 0", "take x n 1000 more");
        between.run(2);
        // The last one leads to its own state, so it is taken in each of the fifty steps of the chain.
        holds("one between them is not taken", between, 0, 50011);
    }

    private static CarHouse halfway() {
        CarHouse x = chart("datum x n 0", "state x s top plain", "edge x s s time", "take x n 1 more", "after x s 300");
        x.run(700);
        return x;
    }

    private static void refusals() {
        int[][] none = {{-1, 0}, {1, 0}, {0, -1}, {0, 32}, {Integer.MIN_VALUE, 0}, {Integer.MAX_VALUE, 0}, {0, Integer.MIN_VALUE}, {0, Integer.MAX_VALUE}};
        for (int[] at : none) {
            Checks.refused("value(" + at[0] + ", " + at[1] + ")", IndexOutOfBoundsException.class, Promise19Test::halfway, x -> x.value(at[0], at[1]));
        }
        Checks.thrown("value(0, 0) without a car", IndexOutOfBoundsException.class, () -> new CarHouse().value(0, 0));
        Checks.thrown("value(0, 0) without charts", IndexOutOfBoundsException.class, () -> Checks.carOf("controller a").value(0, 0));
        CarHouse twelve = Checks.carOf("controller a\n" + Faults.many(12, "task t% a 9 20000 0 1") + Faults.many(12, "chart x% t% 1") + "datum xb d 6");
        Checks.due("the twelfth chart", 6, () -> twelve.value(11, 0));
        Checks.thrown("no thirteenth", IndexOutOfBoundsException.class, () -> twelve.value(12, 0));
    }
}
