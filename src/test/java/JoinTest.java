/** Promises 6 to 8: count, frame, signal; how signals go to frames, and frames to identifiers. */
public final class JoinTest {
    private static final String[] HEAD = {
        "controller a", "controller b", "task t a 1 500 0 1", "task u b 1 500 0 1", "chart c t 1", "chart e u 1", "datum c d 0", "datum e d 0"};

    public static void main(String[] args) {
        Checks.promise(6);
        counts();
        Checks.promise(7);
        framesInOrder();
        Checks.promise(8);
        bestWay();
        firstFit();
        threeOctets();
        Checks.end("JoinTest");
    }

    private static CarHouse with(String... lines) {
        return Checks.carOf(String.join("\n", HEAD), String.join("\n", lines));
    }

    private static void counts() {
        CarHouse x = with("signal s 8 c d 500", "signal r 8 c d 600", "signal q 8 e d 600", "read s e d 1", "watch s b 1", "watch q a 2", "watch q a 2",
            "watch r b 2");
        int[] want = {2, 2, 2, 3, 3, 1, 4};
        for (int what = 0; what < 7; what++) {
            int w = what;
            Checks.due("count(" + w + ")", want[w], () -> x.count(w));
        }
        Checks.thrown("count(7)", IllegalArgumentException.class, () -> x.count(7));
        Checks.thrown("count(-1)", IllegalArgumentException.class, () -> x.count(-1));
        CarHouse none = new CarHouse();
        Checks.thrown("count(0) without a car", IllegalStateException.class, () -> none.count(0));
        Checks.thrown("count(7) without a car", IllegalArgumentException.class, () -> none.count(7));
        CarHouse bare = Checks.carOf("controller a");
        Checks.due("no tasks", 0, () -> bare.count(1));
        Checks.due("no frames", 0, () -> bare.count(4));
    }

    /** Identifier, controller, period, key. */
    private static void frame(CarHouse x, int i, int... want) {
        for (int what = 0; what < 4; what++) {
            int w = what;
            Checks.due("frame(" + i + ", " + w + ")", want[w], () -> x.frame(i, w));
        }
    }

    private static void place(CarHouse x, int i, int frame, int octet) {
        Checks.due("signal(" + i + ", false)", frame, () -> x.signal(i, false));
        Checks.due("signal(" + i + ", true)", 8 * octet, () -> x.signal(i, true));
    }

    private static void framesInOrder() {
        CarHouse x = with("signal s 8 e d 500", "signal r 8 c d 900", "signal q 8 c d 700 turned", "signal p 64 c d 900", "signal n 9 c d 500",
            "protect a 500 3", "protect a 600 4", "protect b 700 5");
        Checks.due("count(4)", 5, () -> x.count(4));
        // Of controller a without key: period 700, then two of 900; with key: 500. Of b: 500.
        frame(x, 0, 64 + 16, 0, 700, 0);
        frame(x, 1, 64 + 24, 0, 900, 0);
        frame(x, 2, 64 + 32, 0, 900, 0);
        frame(x, 3, 64, 0, 500, 3);
        frame(x, 4, 64 + 8, 1, 500, 0);
        place(x, 0, 4, 0);
        place(x, 1, 2, 0);
        place(x, 2, 0, 0);
        place(x, 3, 1, 0);
        place(x, 4, 3, 0);
        Checks.due("not sent yet", 0, () -> x.frame(0, 4));
        x.run(701);
        Checks.due("sent at 700", 1, () -> x.frame(0, 4));
        Checks.due("not sent before 900", 0, () -> x.frame(1, 4));
        Checks.thrown("frame(5, 0)", IndexOutOfBoundsException.class, () -> x.frame(5, 0));
        Checks.thrown("frame(-1, 9)", IndexOutOfBoundsException.class, () -> x.frame(-1, 9));
        Checks.thrown("frame(0, 5)", IllegalArgumentException.class, () -> x.frame(0, 5));
        Checks.thrown("frame(0, -1)", IllegalArgumentException.class, () -> x.frame(0, -1));
        Checks.thrown("signal(5, true)", IndexOutOfBoundsException.class, () -> x.signal(5, true));
        Checks.thrown("signal(-1, false)", IndexOutOfBoundsException.class, () -> x.signal(-1, false));
    }

    /** Octets 4 3 3 2 2 2 fill two frames, but the first frame with room for each would need a third one. */
    private static void bestWay() {
        CarHouse x = with("signal p 16 c d 500", "signal q 24 c d 500", "signal r 32 c d 500", "signal s 9 c d 500", "signal t2 24 c d 500",
            "signal u2 15 c d 500");
        Checks.due("two frames", 2, () -> x.count(4));
        place(x, 2, 0, 0);
        place(x, 1, 1, 0);
        place(x, 4, 1, 3);
        place(x, 0, 0, 4);
        place(x, 3, 0, 6);
        place(x, 5, 1, 6);
        // A free choice goes to the first frame: 5 4 2 1 are 5 2 1 and 4, not 5 2 and 4 1.
        CarHouse y = with("signal p 40 c d 500", "signal q 32 c d 500", "signal r 16 c d 500", "signal s 8 c d 500");
        Checks.due("two frames", 2, () -> y.count(4));
        place(y, 0, 0, 0);
        place(y, 1, 1, 0);
        place(y, 2, 0, 5);
        place(y, 3, 0, 7);
    }

    private static void firstFit() {
        CarHouse x = with("signal p 16 c d 500", "signal q 24 c d 500", "signal r 32 c d 500", "signal s 9 c d 500", "signal t2 24 c d 500",
            "signal u2 15 c d 500", "signal v 64 c d 500", "signal w 57 c d 500");
        Checks.due("eight signals take five frames", 5, () -> x.count(4));
        place(x, 6, 0, 0);
        place(x, 7, 1, 0);
        place(x, 2, 2, 0);
        place(x, 1, 2, 4);
        place(x, 4, 3, 0);
        place(x, 0, 3, 3);
        place(x, 3, 3, 5);
        place(x, 5, 4, 0);
    }

    private static void threeOctets() {
        CarHouse x = with("protect a 500 7", "signal p 8 c d 500", "signal q 16 c d 500", "signal r 9 c d 500 turned", "signal s 1 c d 500");
        Checks.due("two frames", 2, () -> x.count(4));
        place(x, 1, 0, 0);
        place(x, 2, 1, 0);
        place(x, 0, 0, 2);
        place(x, 3, 1, 2);
        frame(x, 0, 64, 0, 500, 7);
        frame(x, 1, 72, 0, 500, 7);
    }
}
