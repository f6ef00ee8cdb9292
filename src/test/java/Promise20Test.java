/** Promise 20, chart, to its edges: a full QUEUE, chains and TIMES of just the limit and one more, guards at their bounds, what is counted once. */
public final class Promise20Test {
    private static final int DROPPED = 0, QUEUED = 1, STOPS = 2, ENTERED = 3, TAKEN = 4, HELD = 5, NOT_HELD = 6, BY_ZERO = 7;

    public static void main(String[] args) {
        Checks.promise(20);
        chains();
        times();
        stoppedCalls();
        queue();
        dropped();
        guards();
        greatGuards();
        eachOnce();
        refusals();
        Checks.end("Promise20Test");
    }

    /** A chart x whose task is done at 2 and then each 1000 microseconds. */
    private static CarHouse chart(int limit, String... lines) {
        return Checks.carOf("controller a", "task t a 1 1000 0 1", "chart x t " + limit, String.join("\n", lines));
    }

    /** Chart 1 of b, whose task is done at 702, 1702, .., reads 5 of the frame of 500, and the same of all later ones. */
    private static CarHouse reading(int limit, String... lines) {
        return Checks.carOf("controller a", "controller b", "task t a 1 20000 0 1", "task u b 1 1000 700 1", "chart x t 5", "datum x n 5", "chart y u " + limit,
            "datum y d 0", "datum y k 0", "datum y m 0", "signal g 8 x n 500", String.join("\n", lines));
    }

    private static void tells(String what, CarHouse x, int chart, int... whatsAndWants) {
        for (int i = 0; i < whatsAndWants.length; i += 2) {
            int w = whatsAndWants[i];
            int want = whatsAndWants[i + 1];
            Checks.due(what + ": chart(" + chart + ", " + w + ") at " + x.time(), want, () -> x.chart(chart, w));
        }
    }

    /** Steps of a chain, as many as the limit, are fine; if one more would take an edge, the chain is stopped before it. */
    private static void chains() {
        for (int limit : new int[] {0, 1, 2, 49, 50}) {
            for (int more = -1; more <= 1; more++) {
                int steps = limit + more;
                if (steps >= 0) {
                    CarHouse x = chart(limit, "datum x n 0", "datum x m " + steps, "state x s top plain", "edge x s s 0 if n lt m", "take x n 1 more");
                    x.run(2);
                    String what = steps + " steps with the limit " + limit;
                    Checks.due(what, Math.min(steps, limit), () -> x.value(0, 0));
                    tells(what, x, 0, STOPS, more == 1 ? 1 : 0, DROPPED, 0, TAKEN, Math.min(steps, limit) > 0 ? 1 : 0);
                }
            }
        }
        // The limit is of each chain: a time and the event have chains of their own.
        CarHouse each = chart(2, "datum x n 0", "datum x k 0", "state x s top plain", "edge x s s time", "take x n 0", "after x s 300", "edge x s s 0 if n lt 2",
            "take x n 1 more", "take x k 1 more");
        each.run(1002);
        // Entered at 2, and with each step of a chain at that time: 302, 602, 902.
        Checks.due("four chains of two steps", 8, () -> each.value(0, 1));
        tells("none is stopped", each, 0, STOPS, 0);
        CarHouse again = chart(1, "state x s top plain", "edge x s s time", "after x s 300", "edge x s s 0");
        again.run(1002);
        tells("the start's chain is stopped, then that of the first time, at which the call ends", again, 0, STOPS, 2);
        again.run(1000);
        tells("one stop for each call", again, 0, STOPS, 3);
    }

    /** A thousand times in one call are fine; if one more would speak, it does not, and that is a stop. */
    private static void times() {
        for (int period : new int[] {999, 1000, 1001, 1002}) {
            CarHouse x = Checks.carOf("controller a", "task t a 1 " + period + " 0 1", "chart x t 0", "datum x n 0", "state x s top plain", "edge x s s time",
                "take x n 1 more", "after x s 1");
            x.run(period + 2);
            Checks.due(period + " times are due", Math.min(period, 1000), () -> x.value(0, 0));
            tells(period + " times are due", x, 0, STOPS, period > 1000 ? 1 : 0);
        }
        CarHouse goesOn = Checks.carOf("controller a", "task t a 1 1001 0 1", "chart x t 0", "datum x n 0", "state x s top plain", "edge x s s time",
            "take x n 1 more", "after x s 1");
        goesOn.run(1003);
        Checks.due("a thousand", 1000, () -> goesOn.value(0, 0));
        goesOn.run(1001);
        // One was left over, so now it is 1002 that are due.
        Checks.due("a thousand more", 2000, () -> goesOn.value(0, 0));
        tells("stopped again", goesOn, 0, STOPS, 2);
    }

    /** A call that is stopped is at its end: its event neither happens nor is it dropped; those behind it happen. */
    private static void stoppedCalls() {
        CarHouse x = Checks.carOf("controller a", "controller b", "task t a 1 20000 0 1", "task u b 1 2500 0 1", "chart x t 5", "datum x n 5", "chart y u 0",
            "datum y d 0", "datum y k 0", "datum y m 0", "signal g 8 x n 500", "state y s top plain", "edge y s s time", "take y k 1 more", "after y s 1",
            "edge y s s 7", "take y m 1 more", "read g y d 7", "read g y d 7", "read g y d 7");
        x.run(2502);
        Checks.due("all 2500 times, in three calls", 2500, () -> x.value(1, 1));
        Checks.due("the event of the third call", 1, () -> x.value(1, 2));
        tells("two calls were stopped", x, 1, STOPS, 2, DROPPED, 0, QUEUED, 0);
        // One event, so one call: it is stopped at a thousand times, and none goes on behind it.
        CarHouse one = Checks.carOf("controller a", "controller b", "task t a 1 20000 0 1", "task u b 1 1500 0 1", "chart x t 5", "datum x n 5", "chart y u 0",
            "datum y d 0", "datum y k 0", "signal g 8 x n 500", "state y s top plain", "edge y s s time", "take y k 1 more", "after y s 1", "read g y d 7");
        one.run(1502);
        Checks.due("a thousand of 1500 times", 1000, () -> one.value(1, 1));
        tells("one call", one, 1, STOPS, 1, DROPPED, 0, QUEUED, 0);
        CarHouse y = reading(3, "state y s top plain", "edge y s s 0", "take y k 1 more", "edge y s s 7", "take y m 1 more", "read g y d 7", "read g y d 7");
        y.run(702);
        // The start's chain ends the first call; the second one's event happens, then its chain is stopped.
        Checks.due("two chains", 6, () -> y.value(1, 1));
        Checks.due("one event", 1, () -> y.value(1, 2));
        tells("two stops", y, 1, STOPS, 2, DROPPED, 0, QUEUED, 0);
    }

    private static void queue() {
        for (int reads = 15; reads <= 18; reads++) {
            CarHouse x = reading(5, "state y s top plain", "edge y s s 9", "take y k 1 more", Faults.many(reads, "read g y d 9"));
            x.run(701);
            tells(reads + " events", x, 1, QUEUED, Math.min(reads, 16), DROPPED, 0);
            int lost = Math.max(reads - 16, 0);
            Checks.due(reads + " events: lost", lost, () -> x.counted(2));
            x.run(1);
            tells("they happened", x, 1, QUEUED, 0, DROPPED, 0);
            int happened = Math.min(reads, 16);
            Checks.due("each once", happened, () -> x.value(1, 1));
        }
        // Event 0 of a read is none; the first sixteen are those that come first.
        CarHouse order = reading(5, "state y s top plain", "edge y s s 9", "take y k 1 more", "edge y s s 8", "take y m 1 more", Faults.many(20, "read g y d 0"),
            Faults.many(15, "read g y d 9"), Faults.many(5, "read g y d 8"));
        order.run(702);
        Checks.due("fifteen of the first", 15, () -> order.value(1, 1));
        Checks.due("one of the second", 1, () -> order.value(1, 2));
        Checks.due("four were lost", 4, () -> order.counted(2));
        CarHouse marks = reading(5, "state y m top fork", "read g y d 9");
        marks.run(701);
        tells("a chart of marks", marks, 1, QUEUED, 1);
        marks.run(1);
        tells("nothing happens, but its queue is empty", marks, 1, QUEUED, 0, DROPPED, 0, STOPS, 0);
    }

    private static void dropped() {
        CarHouse none = reading(5, "state y s top plain", "state y z top plain", "edge y z s 9", "edge y s z 8", "edge y s z 9 if k eq 1", "read g y d 9");
        none.run(702);
        tells("no edge from an active state, none whose guard holds", none, 1, DROPPED, 1, NOT_HELD, 1);
        CarHouse taken = reading(5, "state y s top plain", "edge y s s 9", "read g y d 9");
        taken.run(702);
        tells("an edge is taken", taken, 1, DROPPED, 0, TAKEN, 1);
        CarHouse events = reading(5, "state y s top plain", "edge y s s 99", "take y k 1 more", "edge y s s 1", "take y m 1 more", "read g y d 99", "read g y d 1",
            "read g y d 98", "read g y d 2");
        events.run(702);
        Checks.due("event 99", 1, () -> events.value(1, 1));
        Checks.due("event 1", 1, () -> events.value(1, 2));
        tells("98 and 2 are dropped", events, 1, DROPPED, 2);
        CarHouse both = reading(5, "state y s top split", "state y p s plain", "state y q s plain", "state y p1 p plain", "state y p2 p plain", "state y q1 q plain",
            "state y q2 q plain", "edge y p1 p2 9", "edge y q1 q2 9", "edge y s s 9", "take y k 1 more", "read g y d 9");
        both.run(702);
        Checks.due("one event takes edges of all regions", 5, () -> both.active(1, 2));
        Checks.due("in one step", 7, () -> both.active(1, 3));
        Checks.due("but none that leaves these, too", 0, () -> both.value(1, 1));
        tells("two edges", both, 1, DROPPED, 0, TAKEN, 2);
        CarHouse time = reading(5, "state y s top plain", "after y s 100");
        time.run(1702);
        tells("a time without an edge is not dropped", time, 1, DROPPED, 0);
        CarHouse chain = reading(5, "state y s top plain", "state y z top plain", "edge y s z 0 if d eq 5", "edge y z z 9", "read g y d 9");
        chain.run(702);
        tells("started by its first event, whose chain goes first", chain, 1, DROPPED, 0, TAKEN, 2);
    }

    private static void guard(boolean want, long a, String op, String other) {
        CarHouse x = chart(1, "datum x d " + a, "datum x e 7", "datum x z 0", "datum x m -7", "state x s top plain", "state x b top plain",
            "edge x s b 0 if d " + op + " " + other);
        x.run(2);
        Checks.due(a + " " + op + " " + other, want ? 2 : 1, () -> x.active(0, 0));
        boolean zero = (op.equals("div") || op.equals("mod")) && (other.equals("z") || other.equals("0"));
        tells(a + " " + op + " " + other, x, 0, HELD, want ? 1 : 0, NOT_HELD, want ? 0 : 1, BY_ZERO, zero ? 1 : 0);
    }

    private static void guards() {
        for (long a : new long[] {-999999999, -15, -14, -8, -7, -6, -1, 0, 1, 6, 7, 8, 13, 14, 30, 31, 999999999}) {
            for (Object[] other : new Object[][] {{"e", 7L}, {"z", 0L}, {"m", -7L}, {"0", 0L}, {"1", 1L}, {"31", 31L}, {"d", a}}) {
                long b = (Long) other[1];
                guard(a == b, a, "eq", (String) other[0]);
                guard(a != b, a, "ne", (String) other[0]);
                guard(a < b, a, "lt", (String) other[0]);
                guard(a >= b, a, "ge", (String) other[0]);
                if (b != 0 || !other[0].equals("d")) {
                    guard(b != 0 && Math.abs(a) >= Math.abs(b), a, "div", (String) other[0]);
                    guard(b != 0 && a % b == 0, a, "mod", (String) other[0]);
                }
            }
        }
    }

    /** The data of a guard up to the last one, and numbers that a text cannot have. */
    private static void greatGuards() {
        StringBuilder data = new StringBuilder();
        for (int i = 0; i < 32; i++) {
            data.append("datum x d").append(i).append(' ').append(i).append('\n');
        }
        CarHouse x = chart(5, data.toString(), "state x a top plain", "state x b top plain", "state x c top plain", "state x e top plain",
            "edge x a b 0 if d31 eq 31", "edge x b c 0 if d0 ne d31", "edge x c e 0 if d31 mod d31");
        x.run(2);
        Checks.due("data 0 and 31, and the number 31", 4, () -> x.active(0, 0));
        CarHouse great = chart(9, "datum x p 0", "datum x q -1", "datum x k 0", "datum x j 0", "state x s top split", "state x a s plain", "state x b s plain",
            "state x a1 a plain", "state x b1 b plain", "edge x a1 a1 time if p div q", "take x k 1 more", "edge x a1 a1 time", "after x a1 500",
            "edge x b1 b1 time if p mod q", "take x j 1 more", "edge x b1 b1 time", "after x b1 500");
        Tester.openRights(great, 0);
        Checks.due("0 by -1 is 0", 0, () -> great.value(0, 2));
        Tester.write(great, 0, 900, 1, 0, Long.MIN_VALUE);
        great.run(4002 - great.time());
        long quotients = great.value(0, 2);
        great.run(2000);
        Checks.due("the least number by -1 is not 0", quotients + 4, () -> great.value(0, 2));
        Checks.due("and leaves no rest", 12, () -> great.value(0, 3));
        tells("that is not by zero", great, 0, BY_ZERO, 0);
    }

    private static void eachOnce() {
        CarHouse x = chart(5, "datum x n 0", "datum x z 0", "state x s top plain", "state x o top plain", "edge x s s time", "take x n 1 more", "after x s 10",
            "edge x s o 0 if n eq 31", "edge x s o 0 if n div z", "edge x o s 0 if n ge 31", "take x n 0");
        x.run(2);
        tells("entered at 2", x, 0, ENTERED, 1, TAKEN, 0, HELD, 0, NOT_HELD, 2, BY_ZERO, 1);
        x.run(1000);
        // 100 times s, of which the 31st, 62nd and 93rd go to o and back; two edges never: one is by zero, always.
        tells("a hundred times later", x, 0, ENTERED, 2, TAKEN, 3, HELD, 2, NOT_HELD, 2);
        Checks.due("by zero counts each time", 1, () -> x.chart(0, BY_ZERO) > 90 ? 1 : 0);
        CarHouse bare = chart(5, "state x s top plain", "edge x s s time", "after x s 10");
        bare.run(1002);
        tells("an edge without a guard has none that held", bare, 0, TAKEN, 1, HELD, 0, NOT_HELD, 0, BY_ZERO, 0, STOPS, 0, QUEUED, 0, DROPPED, 0, ENTERED, 1);
        CarHouse unasked = chart(5, "datum x z 0", "state x s top plain", "state x o top plain", "edge x o s 0 if z div z", "edge x s o 9 if z div z",
            "edge x s o time if z div z");
        unasked.run(1002);
        tells("a guard is asked only where its state is active and its event at hand", unasked, 0, BY_ZERO, 0, HELD, 0, NOT_HELD, 0);
        // Entered are o, p, p1, p2 and w, of which p was left alone at first; z, q, q1 and the mark never.
        CarHouse some = chart(5, "state x o top plain", "state x z top plain", "state x p o plain", "state x q o plain", "state x p1 p plain", "state x p2 p plain",
            "state x q1 q plain", "state x h q history", "state x w o plain", "edge x p1 p2 time", "after x p1 100", "edge x p w time", "after x p 300", "edge x q z 0");
        some.run(2);
        tells("at the start", some, 0, ENTERED, 3, TAKEN, 0);
        some.run(1000);
        tells("behind edges in p and in o", some, 0, ENTERED, 5, TAKEN, 2);
        CarHouse fork = chart(5, "datum x z 0", "state x a top plain", "state x b top plain", "state x f top fork", "edge x a f 0", "edge x f b 0 if z div z",
            "edge x f a 9 if z ne z");
        fork.run(2);
        Checks.due("a fork leads there whatever its edge's guard", 2, () -> fork.active(0, 0));
        tells("and asks for none", fork, 0, BY_ZERO, 0, HELD, 0, NOT_HELD, 0, TAKEN, 1);
        CarHouse join = chart(5, "datum x z 0", "state x s top split", "state x p s plain", "state x q s plain", "state x j top join", "state x b top plain",
            "edge x p j 0 if z div z", "edge x q j 9 if z ne z", "edge x j b 0 if z eq 0");
        join.run(2);
        Checks.due("a join waits for states, not for guards", 5, () -> join.active(0, 0));
        tells("only the edge from it has one that is asked", join, 0, BY_ZERO, 0, HELD, 1, NOT_HELD, 0, TAKEN, 1);
        CarHouse fresh = chart(5, "state x s top plain");
        tells("before the start", fresh, 0, DROPPED, 0, QUEUED, 0, STOPS, 0, ENTERED, 0, TAKEN, 0, HELD, 0, NOT_HELD, 0, BY_ZERO, 0);
    }

    private static CarHouse halfway() {
        CarHouse x = reading(5, "state y s top plain", "edge y s s 9", "read g y d 9");
        x.run(690);
        return x;
    }

    private static void refusals() {
        for (int i : new int[] {-1, 2, Integer.MIN_VALUE, Integer.MAX_VALUE}) {
            for (int what : new int[] {-1, 0, 7, 8}) {
                Checks.refused("chart(" + i + ", " + what + ")", IndexOutOfBoundsException.class, Promise20Test::halfway, x -> x.chart(i, what));
            }
        }
        for (int what : new int[] {-1, 8, Integer.MIN_VALUE, Integer.MAX_VALUE}) {
            Checks.refused("chart(0, " + what + ")", IllegalArgumentException.class, Promise20Test::halfway, x -> x.chart(0, what));
            Checks.refused("chart(1, " + what + ")", IllegalArgumentException.class, Promise20Test::halfway, x -> x.chart(1, what));
            Checks.thrown("chart(0, " + what + ") without a car", IndexOutOfBoundsException.class, () -> new CarHouse().chart(0, what));
        }
        CarHouse twelve = Checks.carOf("controller a\n" + Faults.many(12, "task t% a 9 20000 0 1") + Faults.many(12, "chart x% t% 1") + "state xb s top plain");
        twelve.run(24);
        Checks.due("the twelfth chart", 1, () -> twelve.chart(11, ENTERED));
        Checks.thrown("no thirteenth", IndexOutOfBoundsException.class, () -> twelve.chart(12, ENTERED));
    }
}
