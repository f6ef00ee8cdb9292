/** Promise 11, bit, to its edges: bit times that have gone by, from 0 on; and the bits of frames with stuff bits everywhere. */
public final class Promise11Test {
    private static final String HEAD = "controller a\ncontroller b\ntask t a 1 20000 0 1\nchart c t 1\n";

    public static void main(String[] args) {
        Checks.promise(11);
        bounds();
        refusals();
        stuffBits();
        manyOctets();
        Checks.end("Promise11Test");
    }

    private static void bounds() {
        CarHouse x = Checks.carOf("controller a");
        Checks.thrown("bit(0) before it has gone by", IndexOutOfBoundsException.class, () -> x.bit(0));
        x.run(1);
        Checks.due("bit(0)", 1, () -> x.bit(0));
        Checks.thrown("bit(1) before it has gone by", IndexOutOfBoundsException.class, () -> x.bit(1));
        Checks.thrown("bit(-1)", IndexOutOfBoundsException.class, () -> x.bit(-1));
        x.run(19999);
        Checks.due("bit(0)", 1, () -> x.bit(0));
        Checks.due("bit(19999)", 1, () -> x.bit(19999));
        Checks.thrown("bit(20000)", IndexOutOfBoundsException.class, () -> x.bit(20000));
        Checks.thrown("bit(-2147483648)", IndexOutOfBoundsException.class, () -> x.bit(Integer.MIN_VALUE));
        Checks.thrown("bit(2147483647)", IndexOutOfBoundsException.class, () -> x.bit(Integer.MAX_VALUE));
        x.system();
        Checks.thrown("bit(0) of a new car", IndexOutOfBoundsException.class, () -> x.bit(0));
        Checks.thrown("bit(0) without a car", IndexOutOfBoundsException.class, () -> new CarHouse().bit(0));
        // A question at the end of time: its frame begins in the last microsecond.
        CarHouse late = Checks.carOf("controller a");
        late.run(19998);
        Checks.say(late, 25);
        late.ask(0);
        late.run(2);
        Checks.due("bit(19998)", 1, () -> late.bit(19998));
        Checks.due("bit(19999) is the first bit of a frame", 0, () -> late.bit(19999));
    }

    private static void refusals() {
        for (int t : new int[] {-1, 530, 20000}) {
            Checks.refused("bit(" + t + ")", IndexOutOfBoundsException.class, () -> {
                CarHouse x = Checks.carOf(HEAD + "datum c d 5\nsignal s 8 c d 500");
                x.run(530);
                return x;
            }, x -> x.bit(t));
        }
    }

    private static void octets(long value, int bits, String want) {
        CarHouse x = Checks.carOf(HEAD + "datum c d " + value + "\nsignal s " + bits + " c d 500");
        x.run(900);
        Checks.same(bits + " bits of " + value, "64 | " + want + " | right", Checks.frameAt(x, 500));
        Checks.due("no error", 0, () -> x.error(-1, 0));
        Checks.due("taken by b and the tester", 2, () -> x.node(1, 2) + x.node(2, 2));
    }

    /** Behind five equal bits comes the other one, and it counts for the next five. */
    private static void stuffBits() {
        octets(0, 64, "0 0 0 0 0 0 0 0");
        octets(-1, 64, "255 255 255 255 255 255 255 255");
        octets(31, 8, "31 0 0 0 0 0 0 0");
        octets(-32, 8, "224 0 0 0 0 0 0 0");
        CarHouse x = Checks.carOf(HEAD + "datum c d -1\nsignal s 64 c d 500");
        x.run(700);
        // The first bit and identifier 64: five zeros, a stuff bit, 1, five zeros, a stuff bit, 0; then three zeros, and the code 8.
        String want = "00000" + "1" + "1" + "00000" + "1" + "0" + "000" + "1000";
        StringBuilder got = new StringBuilder();
        for (int t = 500; t < 500 + want.length(); t++) {
            got.append(x.bit(t));
        }
        Checks.same("the bits before the octets", want, got.toString());
        // Then octets of ones: five of them, a 0, five of them, a 0, ..
        for (int i = 0; i < 72; i++) {
            int t = 500 + want.length() + i;
            int bit = i % 6 == 5 ? 0 : 1;
            Checks.due("bit " + i + " of the octets", bit, () -> x.bit(t));
        }
    }

    private static void octets(String want, CarHouse x, int from) {
        Checks.same("a frame at " + from, want, Checks.frameAt(x, from));
    }

    /** Values at which stuff bits stand before, in and behind the check. */
    private static void manyOctets() {
        for (int v = 0; v < 300; v++) {
            CarHouse x = Checks.carOf(HEAD + "datum c d " + (v * 7919 + (v % 3 == 0 ? 0 : 65535)) + "\nsignal s 24 c d 500 turned");
            x.run(650);
            int value = v * 7919 + (v % 3 == 0 ? 0 : 65535);
            octets("64 | " + (value >> 16 & 255) + " " + (value >> 8 & 255) + " " + (value & 255) + " 0 0 0 0 0 | right", x, 500);
            Checks.due("taken", 1, () -> x.node(1, 2));
        }
    }
}
