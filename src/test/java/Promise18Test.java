/** Promise 18, active, to its edges: before the start, no such state, forty states in one another, two hundred of them, marks and split ones. */
public final class Promise18Test {
    public static void main(String[] args) {
        Checks.promise(18);
        start();
        withoutAStart();
        wayDown();
        forty();
        twoHundred();
        fourHundredEdges();
        histories();
        forks();
        joins();
        domains();
        whoComesFirst();
        refusals();
        Checks.end("Promise18Test");
    }

    /** A chart x whose task is done at 2 and then each 1000 microseconds. */
    private static CarHouse chart(int limit, String... lines) {
        return Checks.carOf("controller a", "task t a 1 1000 0 1", "chart x t " + limit, String.join("\n", lines));
    }

    private static void is(String what, CarHouse x, int... statesAndWants) {
        for (int i = 0; i < statesAndWants.length; i += 2) {
            int state = statesAndWants[i];
            int want = statesAndWants[i + 1];
            Checks.due(what + ": active(0, " + state + ") at " + x.time(), want, () -> x.active(0, state));
        }
    }

    /** Started when the task has used its last microsecond, and not one before. */
    private static void start() {
        CarHouse x = chart(5, "state x a top plain", "state x b top plain", "state x c a plain");
        is("before any time", x, 0, -3, 1, -3, 2, -3, 3, -3);
        x.run(1);
        is("in its start", x, 0, -3, 1, -3, 3, -3);
        x.run(1);
        is("started", x, 0, 3, 1, 3, 2, 0, 3, 3);
        CarHouse late = Checks.carOf("controller a", "task t a 1 20000 19998 1", "chart x t 1", "state x a top plain");
        late.run(19999);
        is("one microsecond before the end", late, 0, -3, 1, -3);
        late.run(1);
        is("started by the last one", late, 0, 1, 1, 1);
        CarHouse never = Checks.carOf("controller a", "task t a 1 20000 19999 1", "chart x t 1", "state x a top plain");
        never.run(20000);
        is("one too late", never, 0, -3, 1, -3);
        CarHouse kept = Checks.carOf("controller a", "task low a 1 20000 0 1", "task high a 2 20000 1 50", "chart x low 1", "state x a top plain");
        kept.run(52);
        is("kept from its last microsecond", kept, 0, -3);
        kept.run(1);
        is("it came", kept, 0, 1);
    }

    private static void withoutAStart() {
        for (String mark : new String[] {"history", "deep", "fork", "join"}) {
            CarHouse marks = chart(5, "state x m top " + mark);
            marks.run(20000);
            is("a chart of marks alone never starts", marks, 0, -3, 1, -3);
            Checks.thrown("but it has no second state", IndexOutOfBoundsException.class, () -> marks.active(0, 2));
        }
        CarHouse none = chart(5, "datum x d 5");
        none.run(20000);
        is("nor does one without states", none, 0, -3);
        Checks.thrown("it has no first state", IndexOutOfBoundsException.class, () -> none.active(0, 1));
        CarHouse one = chart(5, "state x m top fork", "state x h top history", "state x a top plain");
        one.run(2);
        is("the first that is no mark is the default", one, 0, 3, 1, 0, 2, 0, 3, 3);
    }

    /** Down to one without children, with marks alone in it, or a split one. */
    private static void wayDown() {
        CarHouse x = chart(5, "state x a top plain", "state x b a plain", "state x h b history", "state x s top split");
        x.run(2);
        is("marks are no way down", x, 0, 2, 1, 2, 2, 2, 3, 0, 4, 0);
        CarHouse y = chart(5, "state x a top plain", "state x s a split", "state x p s plain", "state x q s plain", "state x r q plain", "state x v q plain");
        y.run(2);
        is("up to a split one", y, 0, 2, 1, 2, 2, 2, 3, 3, 4, 5, 5, 5, 6, 0);
        CarHouse z = chart(5, "state x s top split");
        z.run(2);
        is("a split one without children", z, 0, 1, 1, 1);
        CarHouse inner = chart(5, "state x s top split", "state x p s split", "state x q p plain", "state x m s join", "state x o q plain");
        inner.run(2);
        is("split in split", inner, 0, 1, 1, 1, 2, 2, 3, 5, 4, 0, 5, 5);
    }

    private static void forty() {
        StringBuilder lines = new StringBuilder("datum x n 0\nstate x s1 top plain\n");
        for (int i = 2; i <= 40; i++) {
            lines.append("state x s").append(i).append(" s").append(i - 1).append(" plain\n");
        }
        // A sibling of the deepest: the edge between them leaves and enters these two alone.
        lines.append("state x z s39 plain\nedge x s40 z 0\nstate x top2 top plain\nstate x h s1 deep\n");
        for (int i = 1; i <= 40; i++) {
            lines.append("leave x s").append(i).append(" n 1 more\n");
        }
        CarHouse x = chart(5, lines.toString());
        x.run(2);
        is("forty deep, and over to the sibling", x, 0, 41, 1, 41, 39, 41, 40, 0, 41, 41);
        Checks.due("one was left", 1, () -> x.value(0, 0));
        CarHouse back = chart(5, lines + "edge x s1 top2 time\nafter x s1 10\nedge x top2 h time\nafter x top2 10");
        back.run(22);
        back.run(980);
        // 2, out at 12 with 39 more, back at 22 by the deep history, out at 32, ..: at 1002 it is just back for the fiftieth time.
        is("a deep history of forty", back, 0, 41, 40, 0);
        Checks.due("thirty-nine were left each time, and one at first", 1 + 50 * 39, () -> back.value(0, 0));
        CarHouse shallow = chart(5, lines.toString().replace("state x h s1 deep", "state x h s1 history")
            + "edge x s1 top2 time\nafter x s1 10\nedge x top2 h time\nafter x top2 10");
        shallow.run(1002);
        is("by a history of one child the rest is by default, then over to the sibling again", shallow, 0, 41);
        Checks.due("so one more is left each time", 1 + 50 * 40, () -> shallow.value(0, 0));
    }

    private static void twoHundred() {
        CarHouse x = chart(5, Faults.many(199, "state x s% top plain"), "state x last top plain", "edge x s0 last 0", "after x last 7", "edge x last s1 time",
            "after x s1 5");
        x.run(2);
        is("the last of two hundred", x, 0, 200, 200, 200, 199, 0, 1, 0);
        Checks.thrown("active(0, 201)", IndexOutOfBoundsException.class, () -> x.active(0, 201));
        x.run(1000);
        is("its time speaks, as event 1200", x, 0, 2, 200, 0);
    }

    private static void fourHundredEdges() {
        CarHouse x = chart(1, "state x s top plain", "state x z top plain", Faults.many(399, "edge x s s 9") + "edge x s z 0");
        x.run(2);
        is("by the last of four hundred", x, 0, 2);
        CarHouse all = chart(1, "datum x n 0", "state x s top plain", "edge x s s 0", "take x n 1 more", Faults.many(399, "edge x s s 0"));
        all.run(2);
        Checks.due("of four hundred that are ready the first is taken", 1, () -> all.value(0, 0));
        is("it leads back", all, 0, 1);
    }

    private static void histories() {
        // Never left: the default. A history in the domain itself: what was active there when it was left last, which it never was.
        CarHouse never = chart(5, "state x off top plain", "state x on top plain", "state x a on plain", "state x b on plain", "state x h on history",
            "edge x off h 0");
        never.run(2);
        is("never left", never, 0, 3);
        String lines = String.join("\n", "state x on top plain", "state x a on plain", "state x b on plain", "state x off top plain", "state x h on history",
            "edge x a b time", "after x a 3", "edge x on off time", "after x on 10", "edge x off h time", "after x off 10");
        CarHouse left = chart(5, lines);
        left.run(1002);
        // Entered at 2, 22, .., 1002; by then b was active each time that it was left.
        is("left by b", left, 0, 3);
        CarHouse inside = chart(5, "state x on top plain", "state x g on history", "state x a on plain", "state x b on plain", "state x h on history", "edge x a b time", "after x a 3",
            "edge x b h time", "after x b 3");
        inside.run(1002);
        // The domain is never left, so its history is its default: a at 2, b at 5, a at 8, .., b at 1001 by the 333rd edge.
        is("a history in the domain is of the last leaving of the domain", inside, 0, 4);
        CarHouse later = chart(5, "datum x n 0", "state x off top plain", "state x on top plain", "state x a on plain", "state x b on plain", "state x h on history",
            "edge x off on time", "after x off 2", "edge x a b time", "after x a 2", "edge x b h time", "after x b 2", "enter x a n 1 more");
        later.run(1002);
        // Entered at 4, never left: a at 4, b at 6, a at 8, .., b at 1002 by the 500th edge.
        is("whenever it was entered", later, 0, 4);
        Checks.due("a each fourth tick", 250, () -> later.value(0, 0));
        // Into a history once, then, at 42, into the one that it is in: that is the default again.
        CarHouse direct = chart(5, "datum x n 0", "state x off top plain", "state x on top plain", "state x a on plain", "state x b on plain", "state x h on history",
            "after x off 10", "edge x off h time if n eq 1", "edge x off on time if n ne 1", "after x a 3", "edge x a b time if n lt 2", "after x on 10",
            "edge x on off time if n lt 2", "leave x on n 1 more");
        direct.run(1002);
        is("a history of an edge before is none of this one's", direct, 0, 3);
        // on is left at 22 with a and a2 in it, a at 37 with a2; by the edge from b to the deep one, at 39, on is the domain.
        for (String kind : new String[] {"history", "deep"}) {
            CarHouse domain = chart(5, "datum x n 0", "state x off top plain", "state x on top plain", "state x a on plain", "state x a1 a plain",
                "state x a2 a plain", "state x b on plain", "state x d on " + kind, "after x off 10", "edge x off on time", "after x a1 3",
                "edge x a1 a2 time if n lt 2", "after x on 10", "edge x on off time if n eq 0", "leave x on n 1", "after x a2 2", "edge x a2 b time if n eq 1",
                "after x b 2", "edge x b d time", "take x n 2");
            domain.run(1002);
            is("a " + kind + " one in the domain, and what is in its child", domain, 0, kind.equals("deep") ? 5 : 4);
        }
        CarHouse split = chart(5, "state x s top split", "state x p s plain", "state x q s plain", "state x p1 p plain", "state x p2 p plain", "state x q1 q plain",
            "state x q2 q plain", "state x off top plain", "state x h s deep", "edge x p1 p2 time", "after x p1 3", "edge x q1 q2 time", "after x q1 4",
            "edge x s off time", "after x s 10", "edge x off h time", "after x off 10");
        split.run(1002);
        is("a deep history of a split one is of all its children", split, 0, 1, 2, 5, 3, 7);
        CarHouse flat = chart(5, "state x s top split", "state x p s plain", "state x q s plain", "state x p1 p plain", "state x p2 p plain", "state x q1 q plain",
            "state x q2 q plain", "state x off top plain", "state x h s history", "edge x p1 p2 time", "after x p1 3", "edge x q1 q2 time", "after x q1 4",
            "edge x s off time", "after x s 10", "edge x off h time", "after x off 10");
        flat.run(1002);
        is("one that is not deep is of none of theirs", flat, 0, 1, 2, 4, 3, 6);
        // Both are targets, in any order: the deep one counts for all that is in it.
        for (String both : new String[] {"edge x f d 0\nedge x f h 0", "edge x f h 0\nedge x f d 0"}) {
            CarHouse two = chart(5, "state x on top plain", "state x a on plain", "state x b on plain", "state x b1 b plain", "state x b2 b plain", "state x off top plain",
                "state x h on history", "state x d on deep", "state x f top fork", both, "edge x a b2 time", "after x a 3", "edge x on off time", "after x on 10",
                "edge x off f time", "after x off 10");
            two.run(1002);
            is("a history and a deep one", two, 0, 5);
        }
    }

    private static void forks() {
        String head = "state x i top plain\nstate x s top split\nstate x p s plain\nstate x q s plain\nstate x p1 p plain\nstate x p2 p plain\n"
            + "state x q1 q plain\nstate x q2 q plain\nstate x f top fork\nstate x z top plain\nedge x i f 0\n";
        CarHouse both = chart(5, head, "edge x f p2 0", "edge x f q2 0");
        both.run(2);
        is("into both", both, 0, 2, 3, 6, 4, 8);
        CarHouse second = chart(5, head, "edge x f p2 0", "edge x f p1 0");
        second.run(2);
        is("a second child of a plain one is no target", second, 3, 6, 4, 7);
        CarHouse domain = chart(5, head, "edge x f z 0", "edge x f p2 0");
        domain.run(2);
        is("nor is a second child of the domain", domain, 0, 10, 2, 0);
        for (String mark : new String[] {"fork", "join"}) {
            CarHouse none = chart(5, head, "state x m z " + mark, "edge x f f 0", "edge x f m 0", "edge x f p2 0");
            none.run(2);
            is("a " + mark + " behind a fork is none at all", none, 0, 2, 3, 6, 4, 7, 10, 0);
        }
        CarHouse one = chart(5, head.replace("state x i top plain\nstate x s top split", "state x s top split\nstate x i s plain").replace("edge x i f 0",
            "edge x s f 0"), "edge x f z 0", "edge x f p2 0");
        one.run(2);
        is("a second child of the domain, in the first state", one, 0, 10, 1, 0);
        CarHouse empty = chart(5, head);
        empty.run(2);
        is("a fork that leads nowhere: the default, again and again", empty, 0, 1);
        CarHouse history = chart(5, head, "state x h p history", "edge x f h 0", "edge x f p2 0");
        history.run(2);
        is("a history leaves the child to a later target", history, 3, 6);
    }

    private static void joins() {
        String head = "state x s top split\nstate x p s plain\nstate x q s plain\nstate x p1 p plain\nstate x p2 p plain\nstate x q1 q plain\nstate x j top join\n"
            + "state x z top plain\nedge x j z 0\nedge x p1 p2 time\nafter x p1 500\n";
        CarHouse all = chart(5, head, "edge x p1 j 0", "edge x q1 j 0");
        all.run(2);
        is("all for whom it waits are active", all, 0, 8);
        CarHouse one = chart(5, head, "edge x p2 j 0", "edge x q1 j 0");
        one.run(2);
        is("one of them is not", one, 0, 1);
        one.run(1000);
        is("then it is", one, 0, 8);
        CarHouse none = chart(5, head);
        none.run(1002);
        is("a join for which none waits", none, 0, 1);
    }

    /** How many of some states were left tells the domain: it is the deepest plain one around all sources and targets. */
    private static void domains() {
        String left = "datum x n 0\nstate x o top plain\nstate x s o split\nstate x p s plain\nstate x q s plain\nstate x p1 p plain\nstate x q1 q plain\n"
            + "state x w o plain\nstate x z top plain\nleave x o n 100 more\nleave x s n 10 more\nleave x p1 n 1 more\n";
        CarHouse join = chart(5, left, "state x j top join", "edge x p1 j 0", "edge x q1 j 0", "edge x j w 0");
        join.run(2);
        is("a join that stands elsewhere", join, 0, 7);
        Checks.due("o is around those that it waits for and the target", 11, () -> join.value(0, 0));
        CarHouse lastEdge = chart(5, left, "state x j top join", "edge x j w 0", "edge x p1 j 0");
        lastEdge.run(2);
        is("the only edge to it is the last of all", lastEdge, 0, 7);
        Checks.due("o is around its state and the target", 11, () -> lastEdge.value(0, 0));
        CarHouse firstEdge = chart(5, left, "state x j top join", "edge x p1 j 0", "edge x j w 0");
        firstEdge.run(2);
        is("the only edge to it is the first of all", firstEdge, 0, 7);
        Checks.due("o is around its state and the target", 11, () -> firstEdge.value(0, 0));
        CarHouse out = chart(5, left, "state x j s join", "edge x p1 j 0", "edge x q1 j 0", "edge x j z 0");
        out.run(2);
        is("a join that leads out", out, 0, 8);
        Checks.due("o is left", 111, () -> out.value(0, 0));
        CarHouse first = chart(5, left, "state x f o fork", "edge x f z 0", "edge x p1 f 0");
        first.run(2);
        is("a fork whose edge is the first of all", first, 0, 8);
        Checks.due("o is left", 111, () -> first.value(0, 0));
        CarHouse second = chart(5, left, "state x f o fork", "edge x f w 0", "edge x p1 f 0", "edge x f z 0");
        second.run(2);
        // z is a target that widens the domain to the chart, but w was looked at first.
        is("a target that is not entered", second, 0, 7);
        Checks.due("counts for the domain", 111, () -> second.value(0, 0));
        for (String mark : new String[] {"fork", "join"}) {
            CarHouse none = chart(5, left, "state x f o fork", "state x m z " + mark, "edge x p1 f 0", "edge x f w 0", "edge x f m 0", "edge x z z 0");
            none.run(2);
            is("a " + mark + " behind a fork", none, 0, 7);
            Checks.due("does not", 11, () -> none.value(0, 0));
        }
        CarHouse elsewhere = chart(5, left, "state x f top fork", "edge x p1 f 0", "edge x f w 0");
        elsewhere.run(2);
        is("a fork that stands elsewhere", elsewhere, 0, 7);
        Checks.due("o is around the source and where it leads to", 11, () -> elsewhere.value(0, 0));
        CarHouse waits = chart(5, left, "state x j top join", "edge x w j 0", "edge x p1 j 0", "edge x q1 j 0", "edge x j z 0");
        waits.run(1002);
        is("the first edge of all is from one that is not active", waits, 0, 2);
        CarHouse plain = chart(5, left, "edge x p1 p1 time", "after x p1 600", "edge x q1 q1 9", "edge x p1 z 8");
        plain.run(1002);
        Checks.due("an edge to its own state leaves that alone", 1, () -> plain.value(0, 0));
        CarHouse split = chart(5, left, "edge x p1 q1 time", "after x p1 600");
        split.run(1002);
        Checks.due("a split one is no domain", 11, () -> split.value(0, 0));
    }

    /** Edges that are ready at once: by the depth of the state that they are from, a JOIN's its own, whatever they leave. */
    private static void whoComesFirst() {
        String split = "datum x n 0\nstate x s top split\nstate x p s plain\nstate x q s plain\nstate x p1 p plain\nstate x q1 q plain\nstate x p2 p plain\n"
            + "state x q2 q plain\nstate x z top plain\n";
        CarHouse join = chart(5, split, "state x j top join", "edge x p1 j 0", "edge x q1 j 0", "edge x j z 0 if n eq 0", "take x n 1", "edge x p p2 0 if n eq 0",
            "take x n 2");
        join.run(2);
        is("p is deeper than the join, though not than those that it waits for", join, 0, 1, 2, 6);
        CarHouse inside = chart(5, split, "state x j p join", "edge x p1 j 0", "edge x q1 j 0", "edge x j z 0 if n eq 0", "take x n 1", "edge x p p2 0 if n eq 0",
            "take x n 2");
        inside.run(2);
        is("a join that is deeper than p", inside, 0, 8);
        CarHouse wide = chart(5, "datum x n 0", "state x o top plain", "state x a o plain", "state x a1 a plain", "state x b o plain", "state x z top plain",
            "edge x a b 0 if n eq 0", "take x n 1", "edge x a1 z 0 if n eq 0", "take x n 2");
        wide.run(2);
        is("the deeper state's edge, though its domain is the chart", wide, 0, 5);
        CarHouse inner = chart(5, "datum x n 0", "state x z top plain", "state x o top plain", "state x a o plain", "edge x z o 0 if n eq 0", "take x n 1",
            "edge x a a 0 if n eq 1", "take x n 2", "edge x o z 0 if n eq 1", "take x n 3");
        inner.run(2);
        is("all that both would leave is the last of the states", inner, 0, 3);
        Checks.due("the deeper one's edge alone", 2, () -> inner.value(0, 0));
        CarHouse single = chart(5, "datum x n 0", "state x s top plain", "state x a top plain", "state x b top plain", "edge x s b 0", "take x n 1 more",
            "edge x s a 0", "take x n 10 more");
        single.run(2);
        is("of two from the first of the states the first one", single, 0, 3);
        Checks.due("and that alone", 1, () -> single.value(0, 0));
        // The second edge is not taken because of the first one, so what it would leave is free for the third one.
        CarHouse third = chart(5, split, "edge x p1 p2 0 if n eq 0", "take x n 1", "edge x p1 z 0 if n eq 0", "edge x q1 q2 0 if n eq 0");
        third.run(2);
        is("one that is not taken keeps nothing from others", third, 0, 1, 2, 6, 3, 7);
    }

    private static CarHouse halfway() {
        CarHouse x = chart(5, "state x a top plain", "state x b a plain", "edge x a a time", "after x a 300");
        x.run(700);
        return x;
    }

    private static void refusals() {
        int[][] none = {{-1, 0}, {1, 0}, {0, -1}, {0, 3}, {Integer.MIN_VALUE, 0}, {Integer.MAX_VALUE, 0}, {0, Integer.MIN_VALUE}, {0, Integer.MAX_VALUE},
            {12, 0}, {0, 201}};
        for (int[] at : none) {
            Checks.refused("active(" + at[0] + ", " + at[1] + ")", IndexOutOfBoundsException.class, Promise18Test::halfway, x -> x.active(at[0], at[1]));
            Checks.thrown("active(" + at[0] + ", " + at[1] + ") before the start", IndexOutOfBoundsException.class,
                () -> chart(5, "state x a top plain", "state x b a plain").active(at[0], at[1]));
        }
        Checks.thrown("active(0, 0) without a car", IndexOutOfBoundsException.class, () -> new CarHouse().active(0, 0));
        Checks.thrown("active(0, 0) without charts", IndexOutOfBoundsException.class, () -> Checks.carOf("controller a").active(0, 0));
        CarHouse twelve = Checks.carOf("controller a\n" + Faults.many(12, "task t% a 9 20000 0 1") + Faults.many(12, "chart x% t% 1")
            + "state xb a top plain\nstate xb b top plain");
        twelve.run(24);
        Checks.due("the twelfth chart", 1, () -> twelve.active(11, 0));
        Checks.due("its second state", 0, () -> twelve.active(11, 2));
        Checks.due("the eleventh has no states", -3, () -> twelve.active(10, 0));
        Checks.thrown("no thirteenth", IndexOutOfBoundsException.class, () -> twelve.active(12, 0));
    }
}
