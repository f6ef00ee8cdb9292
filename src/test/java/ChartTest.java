/** Promises 18 to 20: active, value, chart; how charts go on by chains, times and events. */
public final class ChartTest {
    private static final int DROPPED = 0, QUEUED = 1, STOPS = 2, ENTERED = 3, TAKEN = 4, HELD = 5, NOT_HELD = 6, BY_ZERO = 7;

    public static void main(String[] args) {
        Checks.promise(18);
        start();
        Checks.promise(20);
        chains();
        Checks.promise(19);
        times();
        Checks.promise(20);
        manyTimes();
        Checks.promise(18);
        histories();
        forksAndJoins();
        Checks.promise(19);
        conflicts();
        Checks.promise(20);
        guards();
        Checks.promise(19);
        acts();
        Checks.promise(20);
        events();
        queue();
        Checks.promise(18);
        wrongInputs();
        Checks.end("ChartTest");
    }

    /** A chart x whose task is done at 2 and then each 1000 microseconds. */
    private static CarHouse chart(int limit, String... lines) {
        return Checks.carOf("controller a", "task t a 1 1000 0 1", "chart x t " + limit, String.join("\n", lines));
    }

    private static void is(CarHouse x, int region, int want) {
        Checks.due("active(0, " + region + ") at " + x.time(), want, () -> x.active(0, region));
    }

    private static void tells(CarHouse x, int what, int want) {
        Checks.due("chart(0, " + what + ") at " + x.time(), want, () -> x.chart(0, what));
    }

    private static void holds(CarHouse x, int datum, long want) {
        Checks.due("value(0, " + datum + ") at " + x.time(), want, () -> x.value(0, datum));
    }

    private static void start() {
        CarHouse x = chart(5, "state x m top history", "state x a top plain", "state x b a plain", "state x c a plain", "state x d c plain",
            "state x p top split");
        x.run(1);
        is(x, 0, -3);
        is(x, 4, -3);
        x.run(1);
        is(x, 0, 3);
        is(x, 2, 3);
        is(x, 3, 3);
        is(x, 1, 0);
        is(x, 4, 0);
        is(x, 6, 0);
        tells(x, ENTERED, 2);
        tells(x, TAKEN, 0);
        CarHouse split = chart(5, "state x s top split", "state x r s plain", "state x q s split", "state x m s join", "state x k r plain",
            "state x n q plain");
        split.run(2);
        is(split, 0, 1);
        is(split, 1, 1);
        is(split, 2, 5);
        is(split, 3, 3);
        is(split, 4, 0);
        is(split, 6, 6);
        tells(split, ENTERED, 5);
        CarHouse marks = chart(5, "state x m top history", "state x f top fork");
        marks.run(5000);
        is(marks, 0, -3);
        tells(marks, STOPS, 0);
    }

    private static void chains() {
        String[] lines = {"datum x n 0", "state x a top plain", "state x b top plain", "state x c top plain", "edge x a b 0", "edge x b c 0",
            "take x n 7"};
        CarHouse all = chart(2, lines);
        all.run(2);
        is(all, 0, 3);
        tells(all, STOPS, 0);
        tells(all, TAKEN, 2);
        holds(all, 0, 7);
        CarHouse one = chart(1, lines);
        one.run(2);
        is(one, 0, 2);
        tells(one, STOPS, 1);
        tells(one, TAKEN, 1);
        one.run(2000);
        // Time alone begins no chain.
        is(one, 0, 2);
        tells(one, STOPS, 1);
        CarHouse none = chart(0, lines);
        none.run(2);
        is(none, 0, 1);
        tells(none, STOPS, 1);
        CarHouse endless = chart(50, "datum x n 0", "state x a top plain", "edge x a a 0", "take x n 1 more");
        endless.run(2);
        holds(endless, 0, 50);
        tells(endless, STOPS, 1);
        tells(endless, DROPPED, 0);
    }

    private static void times() {
        CarHouse x = chart(5, "datum x n 0", "state x a top plain", "state x b top plain", "edge x a b time", "take x n 1 more", "edge x b a time",
            "take x n 100 more", "after x a 100", "after x b 250");
        x.run(1001);
        is(x, 0, 1);
        x.run(1);
        // 102 to b, 352 to a, 452 to b, 702 to a, 802 to b, which is due at 1052.
        is(x, 0, 2);
        holds(x, 0, 203);
        tells(x, DROPPED, 0);
        // The same times, each once for an entry; by number, if two are due at once.
        CarHouse two = chart(5, "datum x n 0", "state x s top split", "state x a s plain", "state x b s plain", "state x c a plain",
            "state x d a plain", "state x e b plain", "state x f b plain", "edge x e f time", "take x n 2", "edge x c d time", "take x n 1",
            "after x c 50", "after x e 50", "after x s 60");
        two.run(1002);
        holds(two, 0, 2);
        is(two, 2, 5);
        is(two, 3, 7);
        tells(two, TAKEN, 2);
        tells(two, DROPPED, 0);
        // The last time that was told counts.
        CarHouse again = chart(5, "datum x n 0", "state x a top plain", "edge x a a time", "take x n 1 more", "after x a 10", "after x a 600");
        again.run(1002);
        holds(again, 0, 1);
    }

    private static void manyTimes() {
        CarHouse x = Checks.carOf("controller a", "task t a 1 10000 0 1", "chart x t 0", "datum x n 0", "state x a top plain", "edge x a a time",
            "take x n 1 more", "after x a 1");
        x.run(10002);
        holds(x, 0, 1000);
        tells(x, STOPS, 1);
        // Up to 1000 the call is not stopped.
        CarHouse y = Checks.carOf("controller a", "task t a 1 1000 0 1", "chart x t 0", "datum x n 0", "state x a top plain", "edge x a a time",
            "take x n 1 more", "after x a 1");
        y.run(1002);
        holds(y, 0, 1000);
        tells(y, STOPS, 0);
    }

    private static void histories() {
        // Work is entered at 2, 162, .., 962 and left 100 behind that; at first 12 to q1, then to q2.
        String common = String.join("\n", "state x work top plain", "state x p work plain", "state x q work plain", "state x q1 q plain", "state x q2 q plain",
            "state x rest top plain", "edge x p q time", "after x p 10", "edge x q1 q2 time", "after x q1 70", "edge x work rest time", "after x work 100",
            "after x rest 60");
        CarHouse plain = chart(5, common.replace("after x p 10", "after x p 50"), "edge x rest work time");
        plain.run(2);
        is(plain, 0, 2);
        plain.run(1000);
        is(plain, 0, 2);
        CarHouse shallow = chart(5, common, "state x h work history", "edge x rest h time");
        shallow.run(1002);
        is(shallow, 0, 4);
        is(shallow, 1, 4);
        is(shallow, 3, 4);
        CarHouse deep = chart(5, common, "state x h work deep", "edge x rest h time");
        deep.run(1002);
        is(deep, 0, 5);
        CarHouse inQ = chart(5, common, "state x h q history", "edge x rest h time");
        inQ.run(1002);
        is(inQ, 0, 5);
        CarHouse never = chart(5, "state x off top plain", "state x on top plain", "state x a on plain", "state x b on plain", "state x h on deep",
            "edge x off h time", "after x off 5");
        // What was never left has no history: the default.
        never.run(1002);
        is(never, 0, 3);
        CarHouse inside = chart(5, "datum x n 0", "state x a top plain", "state x b top plain", "state x h top history", "edge x a b time", "edge x b h time",
            "take x n 1 more", "after x a 10", "after x b 10");
        // The chart is never left, so its history is its default: 12, 22, 32, ..
        inside.run(1002);
        is(inside, 0, 1);
        holds(inside, 0, 50);
    }

    private static String forking(String more) {
        return String.join("\n", "datum x n 0", "state x i top plain", "state x s top split", "state x r1 s plain", "state x r2 s plain",
            "state x r3 s plain", "state x a1 r1 plain", "state x b1 r1 plain", "state x a2 r2 plain", "state x b2 r2 plain", "state x a3 r3 plain",
            "state x f top fork", "state x j s join", "state x done top plain",
            "edge x i f time", "take x n 1", "after x i 10", "edge x f b1 5 if n eq 9", "edge x f b2 0", "edge x f a1 0", "edge x f f 0",
            "edge x b1 a1 time", "after x b1 100", "edge x b2 a2 time", "after x b2 1500",
            "edge x a1 j 7", "edge x a2 j 0 if n eq 9", "edge x j done 0", "take x n 3 more", more);
    }

    private static void forksAndJoins() {
        CarHouse x = chart(5, forking(""));
        x.run(1002);
        // At 12 the fork led to b1 and b2; a1 came third, a second child of r1. At 112 from b1 to a1.
        is(x, 0, 2);
        is(x, 3, 6);
        is(x, 4, 9);
        is(x, 5, 10);
        holds(x, 0, 1);
        tells(x, TAKEN, 2);
        tells(x, NOT_HELD, 0);
        x.run(1000);
        // At 1512 to a2: all for whom the join waits are active, in the chain behind that.
        is(x, 0, 13);
        is(x, 2, 0);
        holds(x, 0, 4);
        tells(x, TAKEN, 4);
        // A mark is never active, so nothing comes of a join that waits for one.
        CarHouse marked = chart(5, forking("edge x f j 0"));
        marked.run(2002);
        is(marked, 0, 2);
        is(marked, 4, 8);
        tells(marked, TAKEN, 3);
        // The fork leads out of o, so o is left, too, though the fork and the edge's state are in it.
        CarHouse out = chart(5, "datum x n 0", "state x o top plain", "state x i o plain", "state x f o fork", "state x z top plain", "state x y z plain",
            "state x w z plain", "edge x i f 0", "edge x f w 0", "leave x o n 1 more", "enter x z n 10 more");
        out.run(2);
        is(out, 0, 6);
        holds(out, 0, 11);
        // The join waits for states in two regions, so the edge from it leaves the split one, though it leads into it again.
        CarHouse again = chart(1, "datum x n 0", "state x s top split", "state x r1 s plain", "state x r2 s plain", "state x a1 r1 plain",
            "state x b1 r1 plain", "state x a2 r2 plain", "state x j r1 join", "edge x a1 j 0", "edge x a2 j 0", "edge x j b1 0", "enter x s n 1 more");
        again.run(2);
        is(again, 2, 5);
        is(again, 3, 6);
        holds(again, 0, 2);
        CarHouse lonely = chart(5, "state x a top plain", "state x f top fork", "state x j top join", "state x b top plain", "edge x a f time",
            "after x a 10", "edge x j b 0");
        // A fork without edges leads to the default; a join without edges is never ready.
        lonely.run(1002);
        is(lonely, 0, 1);
        tells(lonely, TAKEN, 1);
    }

    private static void conflicts() {
        // Both edges are ready at 12: the deeper one goes first, and what it leaves the other one cannot leave.
        CarHouse x = chart(5, "datum x n 0", "datum x m 0", "state x o top plain", "state x a o plain", "state x b o plain", "state x z top plain",
            "edge x o z 0 if n eq 1", "edge x a b 0 if n eq 1", "take x m 5", "enter x a n 1");
        x.run(2);
        is(x, 0, 4);
        holds(x, 1, 5);
        tells(x, ENTERED, 4);
        // In regions of a split one both are done, in the order of depth, then of their numbers.
        CarHouse both = chart(5, "datum x n 0", "state x s top split", "state x r1 s plain", "state x r2 s plain", "state x a1 r1 plain",
            "state x b1 r1 plain", "state x a2 r2 plain", "state x b2 r2 plain", "edge x a2 b2 0", "take x n 10 more", "edge x a1 b1 0",
            "take x n 2", "leave x a1 n 100 more", "enter x b2 n 1000 more");
        both.run(2);
        is(both, 2, 5);
        is(both, 3, 7);
        // +10, then +1000 at b2; then +100 at a1, then 2.
        holds(both, 0, 2);
        CarHouse self = chart(5, "datum x n 0", "state x s top split", "state x r1 s plain", "state x a1 r1 plain", "edge x r1 r1 0 if n lt 3",
            "enter x s n 1 more");
        // A region is in a split one, so the edge to itself leaves and enters that, too.
        self.run(2);
        holds(self, 0, 3);
        tells(self, TAKEN, 1);
        tells(self, HELD, 1);
        tells(self, NOT_HELD, 1);
    }

    private static boolean goes(long a, String op, String other) {
        CarHouse x = chart(1, "datum x d " + a, "datum x e 7", "datum x z 0", "datum x m -7", "state x a top plain", "state x b top plain",
            "edge x a b 0 if d " + op + " " + other);
        x.run(2);
        boolean gone = x.active(0, 0) == 2;
        tells(x, HELD, gone ? 1 : 0);
        tells(x, NOT_HELD, gone ? 0 : 1);
        tells(x, BY_ZERO, (op.equals("div") || op.equals("mod")) && (other.equals("z") || other.equals("0")) ? 1 : 0);
        return gone;
    }

    private static void guard(boolean want, long a, String op, String other) {
        Checks.same(a + " " + op + " " + other, Boolean.toString(want), Boolean.toString(goes(a, op, other)));
    }

    private static void guards() {
        guard(true, 7, "eq", "e");
        guard(false, 6, "eq", "e");
        guard(true, 31, "eq", "31");
        guard(true, 6, "ne", "e");
        guard(false, 7, "ne", "7");
        guard(true, 6, "lt", "e");
        guard(false, 7, "lt", "e");
        guard(true, -9, "lt", "m");
        guard(true, 7, "ge", "e");
        guard(false, 6, "ge", "7");
        guard(true, 7, "div", "e");
        guard(true, -8, "div", "e");
        guard(false, -6, "div", "7");
        guard(false, 5, "div", "z");
        guard(false, 5, "div", "0");
        guard(true, -14, "mod", "e");
        guard(true, 0, "mod", "m");
        guard(false, 15, "mod", "e");
        guard(false, 0, "mod", "z");
        guard(false, 0, "mod", "0");
        // An edge without a guard asks for nothing.
        CarHouse x = chart(1, "state x a top plain", "state x b top plain", "edge x a b 0");
        x.run(2);
        tells(x, TAKEN, 1);
        tells(x, HELD, 0);
        tells(x, NOT_HELD, 0);
    }

    private static void acts() {
        CarHouse x = chart(9, "datum x n 5", "datum x m -999999999", "state x o top plain", "state x a o plain", "state x b top plain",
            "enter x o n 2 more", "enter x a n 10", "enter x a n 3 more", "edge x a b 0", "take x n 100 more", "take x m -999999999 more", "take x m -1 more",
            "leave x a n 1 more", "leave x o n 1000 more", "enter x b n 20 more");
        x.run(2);
        // 5 + 2, then 10 + 3, out + 1 + 1000, edge + 100, in + 20.
        holds(x, 0, 1134);
        holds(x, 1, -1999999999L);
        for (int datum = 2; datum < 32; datum++) {
            holds(x, datum, 0);
        }
        // The deepest is left first, of one depth the one with the least number; they are entered the other way.
        CarHouse order = chart(1, "datum x out 0", "datum x in 0", "state x o top plain", "state x s o split", "state x a s plain", "state x b s plain",
            "state x c b plain", "state x z top plain", "edge x o z 0", "leave x o out 6", "leave x s out 5 more", "leave x a out 100 more",
            "leave x b out 30 more", "leave x c out 1", "enter x o in 1", "enter x s in 10 more", "enter x a in 5", "enter x b in 7 more",
            "enter x c in 100 more");
        order.run(2);
        holds(order, 0, 6);
        holds(order, 1, 112);
        CarHouse sides = chart(1, "datum x out 0", "state x o top split", "state x a o plain", "state x b o plain", "state x c a plain",
            "state x z top plain", "edge x o z 0", "leave x a out 4", "leave x b out 10 more", "leave x c out 50", "leave x o out 1000 more");
        sides.run(2);
        holds(sides, 0, 1014);
    }

    /**
     * Chart 1 of b, whose task is done at 402, 1402, .., reads a datum of chart 0 of a.
     * The frames of 500 and 1000 have 5, that of 1500 has 6, those of 2000 and 2500 have 7, that of 3000 has 8.
     */
    private static CarHouse reading(String... lines) {
        return Checks.carOf("controller a", "controller b", "task t a 1 500 0 1", "task u b 1 1000 400 1", "chart x t 5", "datum x n 5", "state x s top plain",
            "edge x s s time", "take x n 1 more", "after x s 700", "chart y u 5", "datum y d 0", "datum y k 0", "datum y l 9", "signal g 8 x n 500",
            String.join("\n", lines));
    }

    private static void events() {
        CarHouse x = reading("state y a top plain", "state y b top plain", "edge y a b 3", "edge y b a 3 if d ge 8", "read g y d 3");
        x.run(402);
        Checks.due("before any frame", 1, () -> x.active(1, 0));
        x.run(400);
        Checks.due("the datum is there at once", 5, () -> x.value(1, 0));
        Checks.due("the event waits", 1, () -> x.chart(1, QUEUED));
        Checks.due("the chart has not gone on", 1, () -> x.active(1, 0));
        x.run(599);
        Checks.due("the same value again is no event", 1, () -> x.chart(1, QUEUED));
        Checks.due("not before the task is done", 1, () -> x.active(1, 0));
        x.run(1);
        Checks.due("it went on at 1402", 2, () -> x.active(1, 0));
        Checks.due("nothing was dropped", 0, () -> x.chart(1, DROPPED));
        Checks.due("none waits", 0, () -> x.chart(1, QUEUED));
        x.run(1000);
        Checks.due("7 came at 2000", 7, () -> x.value(1, 0));
        Checks.due("6 and 7 made events by which no edge was taken", 2, () -> x.chart(1, DROPPED));
        Checks.due("so it stays", 2, () -> x.active(1, 0));
        x.run(1000);
        Checks.due("8 came at 3000", 1, () -> x.active(1, 0));
        Checks.due("not dropped", 2, () -> x.chart(1, DROPPED));
        CarHouse silent = reading("state y a top plain", "edge y a a 3", "read g y d 0");
        silent.run(1402);
        Checks.due("event 0 makes no event", 0, () -> silent.chart(1, DROPPED));
        Checks.due("but the datum", 5, () -> silent.value(1, 0));
        CarHouse chain = reading("state y a top plain", "state y b top plain", "edge y a b 0 if d ge 5", "read g y d 8");
        chain.run(402);
        Checks.due("not yet", 1, () -> chain.active(1, 0));
        chain.run(1000);
        Checks.due("a dropped event is followed by a chain, too", 2, () -> chain.active(1, 0));
        Checks.due("dropped", 1, () -> chain.chart(1, DROPPED));
    }

    private static void queue() {
        StringBuilder reads = new StringBuilder("state y a top plain\nedge y a a 4\ntake y k 1 more\n");
        for (int i = 0; i < 18; i++) {
            reads.append("read g y d ").append(4 + i % 2).append('\n');
        }
        CarHouse x = reading(reads.toString());
        x.run(900);
        Checks.due("at most 16 wait", 16, () -> x.chart(1, QUEUED));
        Checks.due("the others are lost", 2, () -> x.counted(2));
        x.run(502);
        Checks.due("8 of them happened", 8, () -> x.value(1, 1));
        Checks.due("8 were dropped", 8, () -> x.chart(1, DROPPED));
        Checks.due("none waits", 0, () -> x.chart(1, QUEUED));
        x.run(400);
        Checks.due("18 more came of 1500, and 2 too many", 4, () -> x.counted(2));
        CarHouse stopped = reading("state y a top plain", "state y b top plain", "edge y a b 4", "edge y a b 5", "edge y b b 0 if l eq 9",
            "take y k 1 more", "read g y d 4", "read g y d 5");
        stopped.run(1402);
        // The chain of 4 stops behind five steps; 5 happens all the same, is dropped, and its chain stops, too.
        Checks.due("stops", 2, () -> stopped.chart(1, STOPS));
        Checks.due("five steps each", 10, () -> stopped.value(1, 1));
        Checks.due("dropped", 1, () -> stopped.chart(1, DROPPED));
        CarHouse empty = reading("state y m top join", "read g y d 4");
        empty.run(1000);
        Checks.due("an event waits", 1, () -> empty.chart(1, QUEUED));
        empty.run(402);
        Checks.due("a chart of marks empties its queue", 0, () -> empty.chart(1, QUEUED));
        Checks.due("nothing happened", 0, () -> empty.chart(1, DROPPED));
        Checks.due("the datum is read all the same", 5, () -> empty.value(1, 0));
    }

    private static void wrongInputs() {
        CarHouse x = chart(1, "state x a top plain");
        Checks.thrown("active(1, 0)", IndexOutOfBoundsException.class, () -> x.active(1, 0));
        Checks.thrown("active(-1, 0)", IndexOutOfBoundsException.class, () -> x.active(-1, 0));
        Checks.thrown("active(0, 2)", IndexOutOfBoundsException.class, () -> x.active(0, 2));
        Checks.thrown("active(0, -1)", IndexOutOfBoundsException.class, () -> x.active(0, -1));
        Checks.thrown("value(1, 0)", IndexOutOfBoundsException.class, () -> x.value(1, 0));
        Checks.thrown("value(0, 32)", IndexOutOfBoundsException.class, () -> x.value(0, 32));
        Checks.thrown("value(0, -1)", IndexOutOfBoundsException.class, () -> x.value(0, -1));
        Checks.due("value(0, 31)", 0, () -> x.value(0, 31));
        Checks.thrown("chart(1, 9)", IndexOutOfBoundsException.class, () -> x.chart(1, 9));
        Checks.thrown("chart(0, 8)", IllegalArgumentException.class, () -> x.chart(0, 8));
        Checks.thrown("chart(0, -1)", IllegalArgumentException.class, () -> x.chart(0, -1));
    }
}
