/** Promise 7, frame, to its edges: the first and the last one, the least and the greatest identifier, period and key, how often SENT. */
public final class Promise07Test {
    private static final String HEAD = "controller a\ncontroller b\ntask t a 1 20000 0 1\ntask u b 1 20000 0 1\nchart c t 1\nchart e u 1\ndatum c d 0\n"
        + "datum e d 0\n";

    public static void main(String[] args) {
        Checks.promise(7);
        fortyFrames();
        keysAndPeriods();
        positions();
        sent();
        silentOnes();
        refusals();
        Checks.end("Promise07Test");
    }

    private static void frame(CarHouse x, int i, int... want) {
        for (int what = 0; what < want.length; what++) {
            int w = what;
            Checks.due("frame(" + i + ", " + w + ")", want[w], () -> x.frame(i, w));
        }
    }

    private static void fortyFrames() {
        CarHouse x = Checks.carOf(HEAD + Faults.many(39, "signal s% 64 c d 500") + "signal n 64 e d 500");
        for (int i = 0; i < 40; i++) {
            frame(x, i, 64 + 8 * i, i < 39 ? 0 : 1, 500, 0, 0);
        }
        Checks.thrown("frame(40, 0)", IndexOutOfBoundsException.class, () -> x.frame(40, 0));
        Checks.thrown("frame(-1, 0)", IndexOutOfBoundsException.class, () -> x.frame(-1, 0));
        CarHouse none = Checks.carOf("controller a");
        Checks.thrown("frame(0, 0) without frames", IndexOutOfBoundsException.class, () -> none.frame(0, 0));
    }

    private static void keysAndPeriods() {
        CarHouse x = Checks.carOf(HEAD + "signal p 8 c d 500\nsignal q 8 c d 20000\nsignal r 8 e d 500\nsignal s 8 e d 20000\nprotect a 500 16\n"
            + "protect b 20000 1\nprotect b 501 9");
        // Of a: without key 20000, then with key 500; of b: without key 500, then with key 20000.
        frame(x, 0, 64 + 16, 0, 20000, 0, 0);
        frame(x, 1, 64, 0, 500, 16, 0);
        frame(x, 2, 64 + 8, 1, 500, 0, 0);
        frame(x, 3, 64 + 24, 1, 20000, 1, 0);
        // Lines that protect may stand before or behind the signals, and only that controller's are meant.
        CarHouse y = Checks.carOf(HEAD + "protect a 500 2\nsignal p 8 c d 500\nsignal q 8 e d 500\nsignal r 8 c d 500");
        frame(y, 0, 64, 0, 500, 2, 0);
        frame(y, 1, 72, 1, 500, 0, 0);
        Checks.due("two frames", 2, () -> y.count(4));
    }

    /** By periods, and of one period by numbers: one microsecond more comes behind all of the lesser period. */
    private static void positions() {
        CarHouse x = Checks.carOf(HEAD + "signal p 64 c d 501\nsignal q 64 c d 500\nsignal r 64 e d 500\nsignal s 64 e d 502\nsignal v 64 e d 501");
        frame(x, 0, 64, 0, 500);
        frame(x, 1, 64 + 16, 0, 501);
        frame(x, 2, 64 + 8, 1, 500);
        frame(x, 3, 64 + 24, 1, 501);
        frame(x, 4, 64 + 32, 1, 502);
    }

    private static void sent() {
        CarHouse x = Checks.carOf(HEAD + "signal p 8 c d 500\nsignal q 8 c d 19999\nsignal r 8 c d 20000\nsignal s 8 c d 6667");
        frame(x, 0, 64, 0, 500, 0, 0);
        x.run(1);
        frame(x, 0, 64, 0, 500, 0, 0);
        x.run(499);
        // 500 microseconds have gone by, but the one with the number 500 has not.
        frame(x, 0, 64, 0, 500, 0, 0);
        x.run(1);
        frame(x, 0, 64, 0, 500, 0, 1);
        x.run(499);
        frame(x, 0, 64, 0, 500, 0, 1);
        x.run(1);
        frame(x, 0, 64, 0, 500, 0, 2);
        x.run(18998);
        frame(x, 0, 64, 0, 500, 0, 39);
        frame(x, 1, 72, 0, 6667, 0, 2);
        frame(x, 2, 80, 0, 19999, 0, 0);
        frame(x, 3, 88, 0, 20000, 0, 0);
        x.run(1);
        frame(x, 2, 80, 0, 19999, 0, 1);
        frame(x, 3, 88, 0, 20000, 0, 0);
        frame(x, 0, 64, 0, 500, 0, 39);
    }

    private static void silentOnes() {
        CarHouse x = Checks.carOf(HEAD + "signal p 8 c d 500\nsignal q 8 e d 500");
        x.run(500);
        x.silence(0, true);
        x.run(1);
        frame(x, 0, 64, 0, 500, 0, 0);
        frame(x, 1, 72, 1, 500, 0, 1);
        x.silence(0, false);
        x.run(499);
        // What was missed is not made up for.
        frame(x, 0, 64, 0, 500, 0, 0);
        x.run(1);
        frame(x, 0, 64, 0, 500, 0, 1);
        x.silence(0, true);
        frame(x, 0, 64, 0, 500, 0, 1);
    }

    private static void refusals() {
        CarHouse x = Checks.carOf(HEAD + "signal p 8 c d 500");
        for (int i : new int[] {-1, 1, Integer.MIN_VALUE, Integer.MAX_VALUE}) {
            for (int what : new int[] {-1, 0, 4, 5}) {
                Checks.thrown("frame(" + i + ", " + what + ")", IndexOutOfBoundsException.class, () -> x.frame(i, what));
                Checks.thrown("without a car", IndexOutOfBoundsException.class, () -> new CarHouse().frame(i, what));
            }
        }
        Checks.thrown("frame(0, 5) without a car", IndexOutOfBoundsException.class, () -> new CarHouse().frame(0, 5));
        for (int what : new int[] {-1, 5, Integer.MIN_VALUE, Integer.MAX_VALUE}) {
            Checks.thrown("frame(0, " + what + ")", IllegalArgumentException.class, () -> x.frame(0, what));
        }
        Checks.refused("frame(0, 5)", IllegalArgumentException.class, () -> Checks.carOf(HEAD + "signal p 8 c d 500"), y -> y.frame(0, 5));
        Checks.refused("frame(1, 0)", IndexOutOfBoundsException.class, () -> Checks.carOf(HEAD + "signal p 8 c d 500"), y -> y.frame(1, 0));
    }
}
