/** Promise 8, signal, to its edges: frames that are just full, few signals packed the best way, many by the first room. */
public final class Promise08Test {
    private static final String HEAD = "controller a\ncontroller b\ntask t a 1 20000 0 1\ntask u b 1 20000 0 1\nchart c t 1\nchart e u 1\ndatum c d 0\n"
        + "datum e d 0\n";

    public static void main(String[] args) {
        Checks.promise(8);
        octetsOfBits();
        justFull();
        justFullWithKey();
        sevenAndEight();
        sameSizes();
        firstPossible();
        frameNumbers();
        refusals();
        behindOthers();
        Checks.end("Promise08Test");
    }

    /** Signals of period 500 in their order, each with so many bits. */
    private static CarHouse packed(String more, int... bits) {
        StringBuilder lines = new StringBuilder(HEAD).append(more);
        for (int i = 0; i < bits.length; i++) {
            lines.append("signal s").append(i).append(' ').append(bits[i]).append(" c d 500\n");
        }
        return Checks.carOf(lines.toString());
    }

    /** Each signal's frame and octet. */
    private static void places(CarHouse x, int[]... want) {
        for (int i = 0; i < want.length; i++) {
            int s = i;
            Checks.due("signal(" + s + ", false)", want[s][0], () -> x.signal(s, false));
            Checks.due("signal(" + s + ", true)", 8 * want[s][1], () -> x.signal(s, true));
        }
    }

    private static int[] at(int frame, int octet) {
        return new int[] {frame, octet};
    }

    /** A signal has octets of its own, as few as hold its bits: the next one begins behind them, turned or not. */
    private static void octetsOfBits() {
        for (int bits = 1; bits <= 56; bits++) {
            CarHouse x = Checks.carOf(HEAD + "signal p " + bits + " c d 500\nsignal q 1 c d 500");
            places(x, at(0, 0), at(0, (bits + 7) / 8));
            CarHouse y = Checks.carOf(HEAD + "signal p " + bits + " c d 500 turned\nsignal q 1 c d 500 turned");
            places(y, at(0, 0), at(0, (bits + 7) / 8));
        }
        for (int bits = 57; bits <= 64; bits++) {
            places(packed("", bits, 1), at(0, 0), at(1, 0));
        }
    }

    private static void justFull() {
        places(packed("", 32, 32), at(0, 0), at(0, 4));
        places(packed("", 32, 33), at(1, 0), at(0, 0));
        places(packed("", 8, 8, 8, 8, 8, 8, 8, 8), at(0, 0), at(0, 1), at(0, 2), at(0, 3), at(0, 4), at(0, 5), at(0, 6), at(0, 7));
        places(packed("", 8, 8, 8, 8, 8, 8, 8, 8, 1), at(0, 0), at(0, 1), at(0, 2), at(0, 3), at(0, 4), at(0, 5), at(0, 6), at(0, 7), at(1, 0));
        places(packed("", 8, 8, 8, 8, 8, 8, 8), at(0, 0), at(0, 1), at(0, 2), at(0, 3), at(0, 4), at(0, 5), at(0, 6));
        places(packed("", 8, 8, 8, 8, 8, 8, 9), at(0, 2), at(0, 3), at(0, 4), at(0, 5), at(0, 6), at(0, 7), at(0, 0));
        places(packed("", 8, 8, 8, 8, 8, 8, 17), at(0, 3), at(0, 4), at(0, 5), at(0, 6), at(0, 7), at(1, 0), at(0, 0));
    }

    private static void justFullWithKey() {
        places(packed("protect a 500 1\n", 24, 24), at(0, 0), at(1, 0));
        places(packed("protect a 500 1\n", 8, 16), at(0, 2), at(0, 0));
        places(packed("protect a 500 1\n", 8, 8, 8), at(0, 0), at(0, 1), at(0, 2));
        places(packed("protect a 500 1\n", 8, 8, 8, 1), at(0, 0), at(0, 1), at(0, 2), at(1, 0));
        places(packed("protect a 500 1\n", 9, 9, 8, 8), at(0, 0), at(1, 0), at(0, 2), at(1, 2));
        places(packed("protect a 500 1\n", 1, 2, 3, 4, 5, 6, 7, 8, 9), at(0, 2), at(1, 0), at(1, 1), at(1, 2), at(2, 0), at(2, 1), at(2, 2), at(3, 0), at(0, 0));
    }

    /** Octets 4 3 3 2 2 2 fill two frames, but by the first room they need three; seven groups are few, eight are many. */
    private static void sevenAndEight() {
        CarHouse seven = packed("", 32, 24, 24, 16, 16, 16, 64);
        Checks.due("seven signals: the least number of frames", 3, () -> seven.count(4));
        places(seven, at(1, 0), at(2, 0), at(2, 3), at(1, 4), at(1, 6), at(2, 6), at(0, 0));
        CarHouse eight = packed("", 32, 24, 24, 16, 16, 16, 64, 64);
        Checks.due("eight signals: by the first room", 5, () -> eight.count(4));
        places(eight, at(2, 0), at(2, 4), at(3, 0), at(3, 3), at(3, 5), at(4, 0), at(0, 0), at(1, 0));
        // Each period is packed by itself: eight signals of two periods are few and few.
        CarHouse two = Checks.carOf(HEAD + "signal p 32 c d 500\nsignal q 24 c d 500\nsignal r 24 c d 500\nsignal s 16 c d 500\nsignal v 16 c d 500\n"
            + "signal w 16 c d 500\nsignal x 64 c d 600\nsignal y 64 c d 600");
        Checks.due("four frames", 4, () -> two.count(4));
    }

    /** Of one size the one with the lesser number comes first; sizes are octets, not bits. */
    private static void sameSizes() {
        places(packed("", 9, 16, 10), at(0, 0), at(0, 2), at(0, 4));
        places(packed("", 8, 9, 1, 16), at(0, 4), at(0, 0), at(0, 5), at(0, 2));
        places(packed("", 33, 40, 25), at(0, 0), at(1, 0), at(2, 0));
        places(packed("", 33, 40, 24), at(0, 0), at(1, 0), at(0, 5));
    }

    /** Among the ways with the least number of frames the first group goes to the first possible frame, then the second one, and so on. */
    private static void firstPossible() {
        places(packed("", 40, 32, 16, 8), at(0, 0), at(1, 0), at(0, 5), at(0, 7));
        places(packed("", 32, 32, 8, 8), at(0, 0), at(0, 4), at(1, 0), at(1, 1));
        places(packed("", 40, 40, 24, 24), at(0, 0), at(1, 0), at(0, 5), at(1, 5));
        // 5 4 4 3: together 5 and 3, 4 and 4.
        places(packed("", 24, 32, 32, 40), at(0, 5), at(1, 0), at(1, 4), at(0, 0));
    }

    private static void frameNumbers() {
        CarHouse x = Checks.carOf(HEAD + "signal p 8 e d 500\nsignal q 8 c d 600\nsignal r 8 c d 500\nsignal s 8 c d 700\nsignal v 8 e d 600\n"
            + "protect a 500 1\nprotect b 500 1");
        // Of a: 600, 700, then 500 with its key; of b: 600, then 500 with its key.
        places(x, at(4, 0), at(0, 0), at(2, 0), at(1, 0), at(3, 0));
        CarHouse forty = Checks.carOf(HEAD + Faults.many(40, "signal s% 64 c d 500"));
        for (int i = 0; i < 40; i++) {
            int s = i;
            Checks.due("signal " + s + " of forty", s, () -> forty.signal(s, false));
        }
        Checks.thrown("signal(40, false)", IndexOutOfBoundsException.class, () -> forty.signal(40, false));
    }

    /** What was packed before, of another period or controller, takes no room of those that come behind: eight octets of one frame. */
    private static void behindOthers() {
        String head = "controller a\ncontroller b\ntask t a 1 20000 0 1\ntask u b 1 20000 0 1\nchart c t 1\nchart e u 1\ndatum c d 1\ndatum e f 1\n";
        String[] before = {"signal m 64 c d 500\nsignal n 64 c d 500\n", "signal m 56 c d 500\n", Faults.many(9, "signal m% 64 c d 500")};
        for (String first : before) {
            int frames = first.split("\n").length;
            CarHouse period = Checks.carOf(head + first + Faults.many(8, "signal s% 8 c d 600"));
            Checks.due("eight of another period", frames + 1, () -> period.count(4));
            CarHouse controller = Checks.carOf(head + first + Faults.many(8, "signal s% 8 e f 500"));
            Checks.due("eight of another controller", frames + 1, () -> controller.count(4));
            CarHouse few = Checks.carOf(head + first + Faults.many(7, "signal s% 8 e f 500"));
            Checks.due("seven of another controller", frames + 1, () -> few.count(4));
        }
    }

    private static void refusals() {
        CarHouse x = packed("", 8);
        for (int i : new int[] {-1, 1, Integer.MIN_VALUE, Integer.MAX_VALUE}) {
            Checks.thrown("signal(" + i + ", true)", IndexOutOfBoundsException.class, () -> x.signal(i, true));
            Checks.thrown("signal(" + i + ", false)", IndexOutOfBoundsException.class, () -> x.signal(i, false));
            Checks.refused("signal(" + i + ", true)", IndexOutOfBoundsException.class, () -> packed("", 8), y -> y.signal(i, true));
        }
        Checks.thrown("signal(0, true) without signals", IndexOutOfBoundsException.class, () -> Checks.carOf("controller a").signal(0, true));
        Checks.thrown("signal(0, false) without a car", IndexOutOfBoundsException.class, () -> new CarHouse().signal(0, false));
    }
}
