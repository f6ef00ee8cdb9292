/** Promise 24, say, to its edges: the hundredth octet, the one behind it, and octets of every value. */
public final class Promise24Test {
    public static void main(String[] args) {
        Checks.promise(24);
        hundred();
        whichAreLost();
        everyValue();
        withAndWithoutACar();
        Checks.end("Promise24Test");
    }

    private static void hundred() {
        CarHouse x = Checks.carOf("controller a");
        for (int i = 1; i <= 100; i++) {
            int n = i;
            Checks.due("octet " + n, n, () -> x.say((byte) n));
        }
        for (int i = 101; i <= 105; i++) {
            Checks.due("octet " + i + " is lost", 100, () -> x.say((byte) 1));
        }
        Checks.due("a hundred are asked", 100, () -> x.ask(0));
        Checks.due("then there are none", 1, () -> x.say((byte) 1));
    }

    /** The bus tells which octets went: FIRST has the length's lowest four bits (4 of 100) and the first six, the last CONSECUTIVE the last three. */
    private static void whichAreLost() {
        CarHouse x = Checks.carOf("controller a");
        for (int i = 0; i < 103; i++) {
            Checks.say(x, i < 100 ? 100 + i : 7);
        }
        x.ask(0);
        x.run(2400);
        int t = begin(x, 0);
        Checks.same("FIRST", "1536 | 20 100 101 102 103 104 105 0 | right", Checks.frameAt(x, t));
        t = begin(x, behind(x, t));
        Checks.same("FLOW", "1537 | 48 0 0 0 0 0 0 0 | right", Checks.frameAt(x, t));
        for (int i = 1; i <= 14; i++) {
            t = begin(x, behind(x, t));
            StringBuilder want = new StringBuilder("1536 | ").append(32 + i);
            for (int k = 0; k < 7; k++) {
                int octet = 6 + 7 * (i - 1) + k;
                want.append(' ').append(octet < 100 ? 100 + octet : 0);
            }
            Checks.same("CONSECUTIVE " + i, want + " | right", Checks.frameAt(x, t));
        }
        Checks.same("the answer", "127 100 17", Checks.answerOf(x));
    }

    private static int begin(CarHouse x, int from) {
        int t = from;
        while (x.bit(t) == 1) {
            t++;
        }
        return t;
    }

    private static int behind(CarHouse x, int from) {
        int ones = 0;
        int t = from;
        while (ones < 11) {
            ones = x.bit(t) == 1 ? ones + 1 : 0;
            t++;
        }
        return t;
    }

    /** A byte below 0 is the octet with the same bits. */
    private static void everyValue() {
        for (int octet = 0; octet < 256; octet++) {
            // These are known; with a length of one octet they have other answers.
            if (octet == 16 || octet == 20 || octet == 25 || octet == 34 || octet == 39 || octet == 46) {
                continue;
            }
            CarHouse x = Checks.carOf("controller a");
            x.say((byte) octet);
            x.ask(0);
            x.run(300);
            Checks.same("octet " + octet, "127 " + octet + " 17", Checks.answerOf(x));
        }
    }

    private static void withAndWithoutACar() {
        CarHouse x = new CarHouse();
        Checks.due("without a car", 1, () -> x.say((byte) -128));
        Checks.tell(x, "controller a");
        Checks.due("with a text", 2, () -> x.say((byte) 127));
        x.system();
        Checks.due("with a car", 3, () -> x.say((byte) 0));
        x.ask(0);
        Checks.due("while something is asked", 1, () -> x.say((byte) 5));
        x.run(500);
        Checks.due("behind the answer", 2, () -> x.say((byte) 6));
        Checks.same("that was to the first three", "127 128 17", Checks.answerOf(x));
        x.run(19500);
        Checks.due("when all time has gone by", 3, () -> x.say((byte) 6));
    }
}
