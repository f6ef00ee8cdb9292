/** Promise 9, run, to its edges: no time, all time, one microsecond too much; frames DONE in the last one; what frames bring. */
public final class Promise09Test {
    private static final String HEAD = "controller a\ncontroller b\ntask t a 1 20000 0 1\ntask u b 1 20000 0 1\nchart c t 1\nchart e u 1\ndatum c d 4660\n"
        + "datum c m -1\ndatum e f 9\n";
    private static final String[] BUSY = {"controller a", "controller b", "task t a 1 500 0 1", "task u b 9 700 3 20", "task v b 3 500 0 400", "chart c t 5",
        "chart e u 5", "datum c d 7", "datum e f 1", "state c s top plain", "edge c s s time", "take c d 1 more", "after c s 300", "state e s top plain",
        "edge e s s 4", "signal g 8 c d 500", "signal h 8 c d 600", "signal i 8 e f 500", "protect a 600 3", "read g e f 4", "watch g b 9", "watch h b 10"};

    public static void main(String[] args) {
        Checks.promise(9);
        bounds();
        refusals();
        done();
        inParts();
        notAtZero();
        valuesOfBits();
        firstValue();
        sentBeforeTheTask();
        takenBeforeTheTask();
        counters();
        sixteenKeys();
        nobodyElsesFrames();
        Checks.end("Promise09Test");
    }

    private static void bounds() {
        CarHouse x = Checks.carOf(HEAD);
        Checks.due("no time", 0, () -> x.run(0));
        Checks.due("no time has gone by", 0, x::time);
        Checks.thrown("one too much", IllegalStateException.class, () -> x.run(20001));
        Checks.due("all but one", 0, () -> x.run(19999));
        Checks.thrown("two are one too much", IllegalStateException.class, () -> x.run(2));
        Checks.due("the last one", 0, () -> x.run(1));
        Checks.due("all has gone by", 20000, x::time);
        Checks.thrown("one more", IllegalStateException.class, () -> x.run(1));
        Checks.due("none more", 0, () -> x.run(0));
        CarHouse y = Checks.carOf(HEAD);
        Checks.due("all at once", 0, () -> y.run(20000));
        Checks.due("all has gone by", 20000, y::time);
        y.system();
        Checks.due("the next car has its own time", 0, () -> y.run(20000));
    }

    private static CarHouse halfway() {
        CarHouse x = Checks.carOf(BUSY);
        Checks.say(x, 1, 2, 3, 4, 5, 6, 7, 8);
        x.ask(0);
        x.run(555);
        return x;
    }

    private static void refusals() {
        for (int micros : new int[] {-1, Integer.MIN_VALUE}) {
            Checks.refused("run(" + micros + ")", IllegalArgumentException.class, Promise09Test::halfway, x -> x.run(micros));
            Checks.thrown("run(" + micros + ") without a car", IllegalArgumentException.class, () -> new CarHouse().run(micros));
        }
        for (int micros : new int[] {20000 - 555 + 1, 20001, Integer.MAX_VALUE, Integer.MAX_VALUE - 555}) {
            Checks.refused("run(" + micros + ")", IllegalStateException.class, Promise09Test::halfway, x -> x.run(micros));
        }
        for (int micros : new int[] {0, 1, 20001}) {
            Checks.refused("run(" + micros + ") without a car", IllegalStateException.class, CarHouse::new, x -> x.run(micros));
        }
        Checks.due("what is left may go by", 20000, () -> {
            CarHouse x = halfway();
            x.run(20000 - 555);
            return x.time();
        });
    }

    /** A frame is DONE with its last END: a run that ends one microsecond before does not count it, the next one does. */
    private static void done() {
        CarHouse x = Checks.carOf(HEAD + "signal s 16 c d 500");
        x.run(501);
        while (x.node(0, 1) == 1) {
            x.run(1);
        }
        int last = x.time() - 1;
        CarHouse y = Checks.carOf(HEAD + "signal s 16 c d 500");
        Checks.due("up to the last END", 0, () -> y.run(last));
        Checks.due("with it", 1, () -> y.run(1));
        Checks.due("none behind it", 0, () -> y.run(1000 - y.time()));
        Checks.due("no time, no frame", 0, () -> y.run(0));
        Checks.due("two more, of 1000 and 1500", 2, () -> y.run(1000));
        CarHouse z = Checks.carOf(HEAD + "signal s 16 c d 500");
        Checks.due("all of 39", 39, () -> z.run(20000));
        CarHouse cut = Checks.carOf(HEAD + "signal s 16 c d 19900");
        Checks.due("the time is at its end before the frame is", 0, () -> cut.run(20000));
        Checks.due("it was sent", 1, () -> cut.frame(0, 4));
        Checks.due("it waits", 1, () -> cut.node(0, 1));
    }

    private static void inParts() {
        CarHouse whole = Checks.carOf(BUSY);
        CarHouse parts = Checks.carOf(BUSY);
        int all = whole.run(1300);
        int sum = 0;
        for (int i = 0; i < 1300; i++) {
            sum += parts.run(1);
            sum += parts.run(0);
        }
        int done = sum;
        Checks.due("as many frames microsecond by microsecond", all, () -> done);
        Checks.same("the same story", Story.of(whole), Story.of(parts));
    }

    private static void notAtZero() {
        CarHouse x = Checks.carOf(HEAD + "signal s 16 c d 500\nsignal r 16 c d 700");
        x.run(1);
        Checks.due("0 is divided by each period, but no frame is sent then", 0, () -> x.frame(0, 4) + x.frame(1, 4) + x.node(0, 1));
        x.run(699);
        Checks.due("500 divides 500", 1, () -> x.frame(0, 4));
        Checks.due("700 has not come", 0, () -> x.frame(1, 4));
        x.run(301);
        Checks.due("500 divides 1000", 2, () -> x.frame(0, 4));
        Checks.due("700 divides 700, but not 1000", 1, () -> x.frame(1, 4));
    }

    /** The bits of a signal as a number from 0 on, of 64 bits with sign. */
    private static void valuesOfBits() {
        for (int bits = 1; bits <= 64; bits++) {
            for (String turned : new String[] {"", " turned"}) {
                CarHouse x = Checks.carOf(HEAD + "signal s " + bits + " c m 500" + turned + "\nsignal r " + bits + " c d 600" + turned + "\nread s e f 0\n"
                    + "datum e g 3\nread r e g 0");
                x.run(900);
                long ones = bits == 64 ? -1 : (1L << bits) - 1;
                Checks.due(bits + " bits of -1" + turned, ones, () -> x.value(1, 0));
                Checks.due(bits + " bits of 4660" + turned, 4660 & ones, () -> x.value(1, 1));
            }
        }
    }

    /** The first value that is read is another one than none, even if the datum is that already. */
    private static void firstValue() {
        String lines = HEAD.replace("datum e f 9", "datum e f 4660") + "signal s 16 c d 500\nread s e f 5\nread s e f 5\nread s e f 0\n";
        CarHouse x = Checks.carOf(lines);
        x.run(600);
        Checks.due("not before the frame is taken", 0, () -> x.chart(1, 1));
        x.run(300);
        Checks.due("each read with an event has one", 2, () -> x.chart(1, 1));
        x.run(500);
        Checks.due("the same value brings none", 2, () -> x.chart(1, 1));
        // A datum that the tester, or the chart itself, made another does not make the read's value another.
        Checks.due("all datums of a chart may be read into", 0, () -> {
            CarHouse y = Checks.carOf(HEAD + Faults.many(31, "datum e d% 0") + "signal s 16 c d 500\nread s e du 5");
            y.run(900);
            return y.value(1, 31) == 4660 ? 0 : 1;
        });
    }

    /** In one microsecond frames are sent first, and a task that is done in it comes later: one done a microsecond before comes in time. */
    private static void sentBeforeTheTask() {
        for (int offset = 497; offset <= 499; offset++) {
            CarHouse x = Checks.carOf("controller a", "controller b", "task t a 1 20000 " + offset + " 1", "chart c t 1", "datum c d 7", "state c s top plain",
                "enter c s d 9", "signal s 8 c d 500");
            x.run(900);
            Checks.same("done at " + (offset + 2), "64 | " + (offset + 2 <= 500 ? 9 : 7) + " 0 0 0 0 0 0 0 | right", Checks.frameAt(x, 500));
        }
    }

    /** In one microsecond frames are taken before tasks are done: the event of a frame happens then, if its chart's task is done just then. */
    private static void takenBeforeTheTask() {
        String lines = HEAD + "signal s 16 c d 500\nstate e p top plain\nedge e p p 5\ndatum e k 0\ntake e k 1 more\nread s e f 5";
        CarHouse probe = Checks.carOf(lines);
        probe.run(501);
        while (probe.node(1, 2) == 0) {
            probe.run(1);
        }
        int taken = probe.time();
        for (int later = -1; later <= 1; later++) {
            int done = taken + later;
            CarHouse x = Checks.carOf(lines.replace("task u b 1 20000 0 1", "task u b 1 20000 " + (done - 2) + " 1"));
            x.run(taken);
            int happened = later == 0 ? 1 : 0;
            int waits = later == 0 ? 0 : 1;
            Checks.due("done " + later + " behind the taking: happened", happened, () -> x.value(1, 1));
            Checks.due("done " + later + " behind the taking: waits", waits, () -> x.chart(1, 1));
            x.run(1);
            int then = later >= 0 ? 1 : 0;
            Checks.due("a microsecond later", then, () -> x.value(1, 1));
        }
    }

    /** What b makes of frames with key 3 at position 0, shown to it by flips: the answer is how many of them it refused. */
    private static void shown(String what, long[] counters, String want) {
        CarHouse x = Checks.carOf("controller a", "controller b", "task t a 1 20000 0 1", "task u b 1 20000 0 1", "chart c t 1", "chart e u 1", "datum c d 5",
            "datum e f 1", "signal g 8 c d 20000", "protect a 20000 3", "read g e f 4", "watch g b 9");
        StringBuilder got = new StringBuilder();
        for (int i = 0; i < counters.length; i++) {
            int refused = x.counted(1);
            x.run(i == 0 ? 100 : 60);
            int acknowledge = new Shown(0, 64, 8, Cmac.frame(0, 3, counters[i], 10 + i, 0, 0)).show(x, 1);
            x.run(acknowledge + 8 - x.time());
            boolean taken = x.value(1, 0) == 10 + i && x.counted(1) == refused;
            got.append(taken ? "taken " : x.counted(1) == refused + 1 && x.value(1, 0) != 10 + i ? "refused " : "? ");
        }
        Checks.same(what, want, got.toString().trim());
        Checks.due(what + ": all were taken from the bus", counters.length, () -> x.node(1, 2));
    }

    private static void counters() {
        shown("d = 1", new long[] {1}, "taken");
        shown("d = 64", new long[] {64}, "taken");
        shown("d = 65", new long[] {65}, "refused");
        shown("d = 0", new long[] {0}, "refused");
        shown("d = 255", new long[] {255}, "refused");
        shown("the same once more, one less, one more", new long[] {5, 5, 4, 6}, "taken refused refused taken");
        shown("d = 64 again and again, beyond 255", new long[] {64, 128, 192, 256, 257}, "taken taken taken taken taken");
        shown("d = 65 behind one that was taken, then 64", new long[] {10, 75, 74}, "taken refused taken");
        // Octet 3 is 0, as of 256, but the code is of a counter that was not at hand.
        shown("the lowest eight bits alone are not enough", new long[] {64, 128, 192, 512, 256}, "taken taken taken refused taken");
    }

    /** Each key by its own octets: on the bus as the library's cipher has it, and taken by the others. */
    private static void sixteenKeys() {
        for (int key = 1; key <= 16; key++) {
            CarHouse x = Checks.carOf(HEAD + "signal s 24 c d 500 turned\nsignal r 8 c m 600\nprotect a 500 " + key + "\nread s e f 0");
            x.run(1400);
            for (int sent = 1; sent <= 2; sent++) {
                StringBuilder want = new StringBuilder("64 |");
                for (int octet : Cmac.frame(0, key, sent, 0, 18, 52)) {
                    want.append(' ').append(octet);
                }
                Checks.same("key " + key + ", sent for the time " + sent, want + " | right", Checks.frameAt(x, 500 * sent));
            }
            Checks.due("key " + key + " is taken", 4660, () -> x.value(1, 0));
            Checks.due("key " + key + ": none is refused", 0, () -> x.counted(1));
        }
    }

    /** Frames at a controller that has nothing to do with them, or that are protected by another key, position or octet. */
    private static void nobodyElsesFrames() {
        String[] car = {"controller a", "controller b", "controller k", "task t a 1 20000 0 1", "task u b 1 20000 0 1", "chart c t 1", "chart e u 1", "datum c d 5",
            "datum e f 1", "signal g 8 c d 20000", "signal h 8 c d 19999", "protect a 20000 3", "protect a 19999 4", "read g e f 4"};
        int[][] octets = {Cmac.frame(1, 3, 1, 7, 0, 0), Cmac.frame(0, 3, 1, 7, 0, 0), Cmac.frame(1, 4, 1, 7, 0, 0), Cmac.frame(1, 3, 2, 7, 0, 0)};
        for (int i = 0; i < octets.length; i++) {
            CarHouse x = Checks.carOf(car);
            octets[i][3] = 1;
            x.run(new Shown(0, 72, 8, octets[i]).show(x, 1) + 8);
            int refused = i == 0 ? 0 : 1;
            Checks.due("position, key and counter are in the code", refused, () -> x.counted(1));
        }
        for (int octet = 0; octet < 8; octet++) {
            CarHouse x = Checks.carOf(car);
            int[] row = Cmac.frame(1, 3, 1, 7, 8, 9);
            row[octet] ^= 2;
            x.run(new Shown(0, 72, 8, row).show(x, 1) + 8);
            Checks.due("octet " + octet + " is not as it was sent", 1, () -> x.counted(1));
            Checks.due("so the datum is not read", 1, () -> x.value(1, 0));
        }
        CarHouse other = Checks.carOf(car);
        other.run(new Shown(0, 72, 8, Cmac.frame(1, 3, 1, 7, 0, 0)).show(other, 2) + 8);
        Checks.due("a controller without reads takes the counter, too", 0, () -> other.counted(1));
        other.run(60);
        int again = new Shown(0, 72, 8, Cmac.frame(1, 3, 1, 7, 0, 0)).show(other, 2);
        other.run(again + 8 - other.time());
        Checks.due("and refuses it the second time", 1, () -> other.counted(1));
        other.run(60);
        int elsewhere = new Shown(0, 72, 8, Cmac.frame(1, 3, 1, 7, 0, 0)).show(other, 1);
        other.run(elsewhere + 8 - other.time());
        Checks.due("but b has a counter of its own", 7, () -> other.value(1, 0));
        Checks.due("none more was refused", 1, () -> other.counted(1));
    }
}
