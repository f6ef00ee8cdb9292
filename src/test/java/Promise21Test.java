/** Promise 21, trouble, to its edges: three periods to the microsecond, two events to a test, two trips, eight entries, priorities at their bounds. */
public final class Promise21Test {
    private static final int STATUS = 0, AGE = 1, FIRST = 2, LAST = 3, ENTRY = 4;

    public static void main(String[] args) {
        Checks.promise(21);
        threePeriods();
        behindAFrame();
        justInTime();
        twoEvents();
        tripsAndLamps();
        goodCycles();
        ageing();
        eightEntries();
        whoGoes();
        snapshots();
        thirtyWatches();
        refusals();
        Checks.end("Promise21Test");
    }

    /** The frames of a come each period; b watches them. */
    private static CarHouse watching(int period, String... watches) {
        return Checks.carOf("controller a", "controller b", "task t a 1 20000 0 1", "chart c t 1", "datum c d 5", "signal s 8 c d " + period,
            String.join("\n", watches));
    }

    private static void tells(String why, CarHouse x, int i, int what, int want) {
        Checks.due(why + ": trouble(" + i + ", " + what + ") at " + x.time(), want, () -> x.trouble(i, what));
    }

    private static void entries(String why, CarHouse x, int... want) {
        for (int i = 0; i < want.length; i++) {
            tells(why, x, i, ENTRY, want[i]);
        }
    }

    /** Nothing is heard: the first event is failed three periods behind 0, the second one three more behind that, and not one before. */
    private static void threePeriods() {
        for (int period : new int[] {500, 501, 1234, 3333}) {
            CarHouse x = watching(period, "watch s b 65");
            x.silence(0, true);
            x.run(6 * period - 1);
            tells("one microsecond before the second event", x, 0, STATUS, 80);
            tells("no entry", x, 0, FIRST, -1);
            x.run(1);
            tells("the second event", x, 0, STATUS, 39);
            tells("it was the second one", x, 0, FIRST, 2);
        }
        CarHouse once = watching(3334, "watch s b 65");
        once.silence(0, true);
        once.run(20000);
        tells("the second one is four microseconds too late", once, 0, STATUS, 80);
        CarHouse never = watching(20000, "watch s b 65", "watch s b 65");
        never.run(20000);
        tells("three periods of 20000", never, 1, STATUS, 80);
    }

    /** What is noted is the time behind the microsecond in which the frame was taken. */
    private static void behindAFrame() {
        CarHouse x = watching(500, "watch s b 65");
        x.run(501);
        while (x.node(1, 2) == 0) {
            x.run(1);
        }
        int noted = x.time();
        x.silence(0, true);
        x.run(noted + 2999 - x.time());
        tells("one microsecond before", x, 0, STATUS, 80);
        x.run(1);
        tells("six periods behind", x, 0, STATUS, 39);
        tells("one that passed, two that failed", x, 0, FIRST, 3);
    }

    /** A frame that is taken in the very microsecond in which three periods are over is heard before that is looked at; one bit later it is not. */
    private static void justInTime() {
        for (int late = 0; late <= 1; late++) {
            CarHouse x = watching(500, "watch s b 65");
            x.run(501);
            while (x.node(1, 2) == 0) {
                x.run(1);
            }
            int noted = x.time();
            x.silence(0, true);
            x.run(1900 - x.time());
            x.silence(0, false);
            if (late == 1) {
                // The frame of 2000 begins a bit later, since its sender has to listen to a 0 first.
                x.flip(0, 1999);
            }
            x.run(101);
            x.silence(0, true);
            while (x.node(1, 2) == 1) {
                x.run(1);
            }
            int heard = x.time();
            int between = heard - noted;
            if (late == 0) {
                Checks.due("three periods", 1500, () -> between);
            } else {
                Checks.due("more than three periods", 1, () -> between > 1500 ? 1 : 0);
            }
            x.run(heard + 3000 - x.time());
            tells("failed by two events behind that", x, 0, STATUS, 39);
            tells(late == 0 ? "none failed before" : "one failed before", x, 0, FIRST, 4 + late);
        }
    }

    /** One failed event and one passed event are none of either; two in a row are a test, whatever was before. */
    private static void twoEvents() {
        CarHouse failed = watching(500, "watch s b 65");
        failed.silence(0, true);
        failed.run(1500);
        failed.silence(0, false);
        failed.run(2);
        failed.silence(0, true);
        failed.run(170);
        tells("failed, passed", failed, 0, STATUS, 80);
        int noted = 0;
        while (failed.trouble(0, STATUS) == 80 && failed.time() < 19000) {
            noted = failed.time();
            failed.run(1);
        }
        int at = noted + 1;
        tells("then failed twice", failed, 0, STATUS, 39);
        tells("by the fourth event", failed, 0, FIRST, 4);
        Checks.due("six periods behind the frame of 1500", 1, () -> at >= 4500 + 100 && at <= 4500 + 140 ? 1 : 0);
        CarHouse passed = watching(500, "watch s b 65");
        passed.run(502);
        passed.silence(0, true);
        passed.run(1898);
        passed.silence(0, false);
        passed.run(400);
        tells("passed, failed, passed", passed, 0, STATUS, 80);
        passed.run(500);
        tells("passed once more", passed, 0, STATUS, 0);
        CarHouse both = watching(500, "watch s b 65");
        both.run(999);
        tells("passed once", both, 0, STATUS, 80);
        both.run(300);
        tells("passed twice", both, 0, STATUS, 0);
    }

    private static CarHouse failedIn(int cycles, String... watches) {
        CarHouse x = watching(500, watches);
        x.silence(0, true);
        x.run(3000);
        for (int i = 1; i < cycles; i++) {
            x.cycle(true);
            x.run(1500);
        }
        return x;
    }

    /** The second cycle that fails confirms; the lamp is for priorities up to 64; failing again in one cycle is no trip more. */
    private static void tripsAndLamps() {
        String[] watches = {"watch s b 1", "watch s b 64", "watch s b 65", "watch s b 255"};
        CarHouse one = failedIn(1, watches);
        CarHouse two = failedIn(2, watches);
        for (int i = 0; i < 4; i++) {
            tells("one trip", one, i, STATUS, 39);
            tells("two trips", two, i, STATUS, i < 2 ? 175 : 47);
        }
        one.run(4500);
        tells("it fails again and again in one cycle", one, 0, STATUS, 39);
        CarHouse between = failedIn(1, "watch s b 1");
        between.silence(0, false);
        between.run(1200);
        tells("passed", between, 0, STATUS, 38);
        between.silence(0, true);
        between.run(3000);
        tells("failed a second time in one cycle", between, 0, STATUS, 39);
        CarHouse good = failedIn(1, "watch s b 1");
        good.cycle(true);
        good.silence(0, false);
        good.run(1200);
        tells("passed in the second cycle", good, 0, STATUS, 36);
        good.cycle(true);
        tells("a good cycle", good, 0, STATUS, 96);
        good.silence(0, true);
        good.run(4200);
        tells("its trip was forgotten, so this is the first one", good, 0, STATUS, 39);
        CarHouse untested = failedIn(1, "watch s b 1");
        untested.cycle(true);
        untested.cycle(true);
        untested.cycle(true);
        tells("cycles without a test", untested, 0, STATUS, 101);
        untested.run(1500);
        tells("are not good ones: the trip counts", untested, 0, STATUS, 175);
    }

    /** Confirmed with a lamp, passed by now, in the cycle that has failed. */
    private static CarHouse passedAgain(String... watches) {
        CarHouse x = failedIn(2, watches);
        x.silence(0, false);
        x.run(1250);
        return x;
    }

    private static void goodCycles() {
        CarHouse x = passedAgain("watch s b 64");
        tells("passed in a cycle that has failed", x, 0, STATUS, 174);
        x.cycle(true);
        tells("which is no good one", x, 0, STATUS, 236);
        tells("nor does it age", x, 0, AGE, 0);
        x.run(500);
        x.cycle(true);
        tells("the first good one", x, 0, STATUS, 232);
        x.run(500);
        x.cycle(false);
        tells("the second one", x, 0, STATUS, 232);
        tells("it was without tests, so it does not age", x, 0, AGE, 1);
        x.cycle(true);
        tells("one in which nothing is tested is none", x, 0, STATUS, 232);
        tells("it does not age either", x, 0, AGE, 1);
        x.run(500);
        x.cycle(true);
        tells("with the third one the lamp goes", x, 0, STATUS, 104);
        tells("ages", x, 0, AGE, 2);
        x.run(500);
        x.cycle(true);
        tells("with the fourth one it stays so", x, 0, STATUS, 104);
        CarHouse again = passedAgain("watch s b 64");
        again.cycle(true);
        again.run(500);
        again.cycle(true);
        again.run(500);
        again.cycle(true);
        again.silence(0, true);
        again.run(3000);
        again.silence(0, false);
        again.run(1250);
        tells("failed between", again, 0, STATUS, 174);
        tells("its age is 0", again, 0, AGE, 0);
        again.cycle(true);
        again.run(500);
        again.cycle(true);
        again.run(500);
        again.cycle(true);
        tells("two good ones are not three", again, 0, STATUS, 232);
    }

    /** Each frame is taken twice, since its sender is shown a 0 at its last END, so each period has two cycles with a test. */
    private static void ageing() {
        CarHouse twin = passedAgain("watch s b 255");
        twin.run(250);
        twin.run(1);
        while (twin.node(0, 1) == 1) {
            twin.run(1);
        }
        int length = (twin.time() - 1) % 500;
        CarHouse x = passedAgain("watch s b 255");
        x.cycle(true);
        for (int start = 6000; start < 20000; start += 500) {
            x.flip(0, start + length);
        }
        for (int good = 1; good <= 40; good++) {
            while ((x.trouble(0, STATUS) & 64) != 0 && x.time() < 20000) {
                x.run(1);
            }
            x.cycle(true);
            tells("good cycle " + good, x, 0, AGE, good % 40);
            tells("good cycle " + good, x, 0, STATUS, good < 40 ? 104 : 96);
            tells("good cycle " + good, x, 0, ENTRY, good < 40 ? 1 : -1);
            tells("good cycle " + good, x, 0, FIRST, good < 40 ? 2 : -1);
        }
        x.silence(0, true);
        x.run(3500);
        tells("its trips were forgotten: the next one is the first", x, 0, STATUS, 39);
        tells("with a new entry", x, 0, ENTRY, 1);
    }

    private static String[] watches(int... priorities) {
        String[] lines = new String[priorities.length];
        for (int i = 0; i < priorities.length; i++) {
            lines[i] = "watch s b " + priorities[i];
        }
        return lines;
    }

    private static void eightEntries() {
        CarHouse seven = failedIn(1, watches(9, 9, 9, 9, 9, 9, 9));
        entries("seven", seven, 1, 2, 3, 4, 5, 6, 7);
        CarHouse eight = failedIn(1, watches(9, 9, 9, 9, 9, 9, 9, 9, 255));
        entries("eight, and a ninth of a lower priority", eight, 1, 2, 3, 4, 5, 6, 7, 8, -1);
        tells("it has failed all the same", eight, 8, STATUS, 39);
        tells("without an entry", eight, 8, FIRST, -1);
        tells("without an entry", eight, 8, LAST, -1);
        CarHouse same = failedIn(1, watches(9, 9, 9, 9, 9, 9, 9, 9, 9));
        entries("a ninth of the same priority", same, 1, 2, 3, 4, 5, 6, 7, 8, -1);
        CarHouse higher = failedIn(1, watches(9, 9, 9, 9, 9, 9, 9, 9, 8));
        entries("a ninth of a priority that is higher by one: the first of the others goes", higher, 2, 3, 4, 5, 6, 7, 8, 9, -1);
        tells("its entry is gone", higher, 0, FIRST, -1);
        CarHouse none = failedIn(1, watches(9));
        none.system();
        tells("none in another car", none, 0, ENTRY, -1);
    }

    /** Of the lowest priority; of these one that is not failed before one that is; of these the one stored first. */
    private static void whoGoes() {
        CarHouse lowest = failedIn(1, watches(9, 10, 255, 254, 255, 7, 8, 11, 6));
        entries("the first stored of priority 255", lowest, 1, 2, 4, 5, 6, 7, 8, 9, -1);
        CarHouse bounds = failedIn(1, watches(255, 255, 255, 255, 255, 255, 255, 255, 1, 254, 255));
        entries("the first two of 255 go, for 1 and 254; none goes for 255", bounds, 3, 4, 5, 6, 7, 8, 9, 10, -1, -1, -1);
        // r, of b, comes each 600; those of s are passed by the time when those of r fail.
        String lines = "task u b 1 20000 0 1\nchart e u 1\ndatum e d 1\nsignal r 8 e d 600\n";
        CarHouse x = watching(500, lines + String.join("\n", watches(20, 20, 20, 20, 20, 30, 20, 20)) + "\nwatch r a 20\nwatch r a 21\nwatch r a 19\nwatch r a 30");
        x.silence(0, true);
        x.run(1600);
        x.silence(1, true);
        x.run(1400);
        entries("eight of s", x, 1, 2, 3, 4, 5, 6, 7, 8);
        x.silence(0, false);
        x.run(1300);
        tells("passed", x, 0, STATUS, 38);
        x.run(1200);
        // The frame of 1200 was the last of r. 20 takes the place of 30, 21 finds nobody lower, 19 takes that of the first 20, 30 finds nobody.
        tells("r has failed", x, 8, STATUS, 39);
        entries("behind the second one", x, 2, 3, 4, 5, 7, 8, 9, 11, -1);
        CarHouse equal = watching(500, lines + String.join("\n", watches(20, 20, 20, 20, 20, 20, 20, 20)) + "\nwatch r a 20\nwatch r a 20");
        equal.silence(0, true);
        equal.run(1600);
        equal.silence(1, true);
        equal.run(1400);
        equal.silence(0, false);
        equal.run(2500);
        entries("one of the same priority goes if it is not failed", equal, 3, 4, 5, 6, 7, 8, 9, 10, -1);
    }

    private static void snapshots() {
        CarHouse x = failedIn(1, watches(9, 9));
        tells("three events by then", x, 0, FIRST, 3);
        tells("four by then", x, 1, FIRST, 4);
        tells("the last one is the first one", x, 0, LAST, 3);
        x.run(3000);
        tells("failing on makes none", x, 0, LAST, 3);
        x.silence(0, false);
        x.run(1200);
        x.silence(0, true);
        x.run(3200);
        // 8 events failed up to 6000, 6 passed by the frames of 6000, 6500 and 7000, then the third and fourth failed ones.
        tells("the first one stays", x, 0, FIRST, 3);
        tells("the last one is new", x, 0, LAST, 17);
        tells("the other one's", x, 1, LAST, 18);
        entries("in their places", x, 1, 2);
        CarHouse others = Checks.carOf("controller a", "controller b", "controller k", "task t b 1 20000 0 1", "task u k 1 20000 0 1", "chart c t 1", "chart e u 1",
            "datum c d 5", "datum e f 5", "signal g 8 c d 500", "signal z 8 e f 500", "watch z a 9");
        others.silence(2, true);
        others.run(3000);
        tells("a frame that nobody watches is no event", others, 0, FIRST, 2);
        CarHouse gone = passedAgain("watch s b 9");
        gone.cycle(true);
        gone.run(500);
        gone.cycle(true);
        tells("aged", gone, 0, AGE, 1);
        Checks.same("all codes are cleared", "84", Checks.asked(gone, 0, 600, 20));
        tells("no entry", gone, 0, FIRST, -1);
        tells("no entry", gone, 0, LAST, -1);
        tells("no entry", gone, 0, ENTRY, -1);
        tells("as at first", gone, 0, AGE, 0);
    }

    private static void thirtyWatches() {
        CarHouse x = failedIn(1, Faults.many(29, "watch s b 9"), "watch s b 8");
        tells("the thirtieth", x, 29, STATUS, 39);
        entries("it took the place of the first", x, 2, 3, 4, 5, 6, 7, 8, 30);
        tells("entry 29 there is none", x, 29, ENTRY, -1);
        tells("the sixtieth event", x, 29, FIRST, 60);
        Checks.thrown("there is no thirty-first", IndexOutOfBoundsException.class, () -> x.trouble(30, ENTRY));
        int cycles = x.cycle(true);
        Checks.due("a cycle of thirty", cycles + 1, () -> x.cycle(false));
        tells("the thirtieth, not tested in it", x, 29, STATUS, 101);
        Checks.same("all thirty are cleared", "84", Checks.asked(x, 0, 600, 20));
        tells("the thirtieth", x, 29, STATUS, 80);
    }

    private static void refusals() {
        for (int i : new int[] {-1, 2, Integer.MIN_VALUE, Integer.MAX_VALUE}) {
            for (int what : new int[] {-1, 0, 4, 5}) {
                Checks.refused("trouble(" + i + ", " + what + ")", IndexOutOfBoundsException.class, () -> failedIn(2, watches(9, 9)), x -> x.trouble(i, what));
            }
        }
        for (int what : new int[] {-1, 5, Integer.MIN_VALUE, Integer.MAX_VALUE}) {
            Checks.refused("trouble(0, " + what + ")", IllegalArgumentException.class, () -> failedIn(2, watches(9, 9)), x -> x.trouble(0, what));
            Checks.refused("trouble(1, " + what + ")", IllegalArgumentException.class, () -> failedIn(2, watches(9, 9)), x -> x.trouble(1, what));
            Checks.thrown("trouble(0, " + what + ") without a car", IndexOutOfBoundsException.class, () -> new CarHouse().trouble(0, what));
        }
        Checks.thrown("trouble(0, 0) without watches", IndexOutOfBoundsException.class, () -> watching(500).trouble(0, 0));
        // An entry is told by a watch's number, so with one watch only the first one is.
        CarHouse one = failedIn(1, watches(9));
        Checks.due("the first entry", 1, () -> one.trouble(0, ENTRY));
        Checks.thrown("no second watch", IndexOutOfBoundsException.class, () -> one.trouble(1, ENTRY));
    }
}
