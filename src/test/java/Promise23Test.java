import java.util.ArrayList;
import java.util.List;

/** Promise 23, counted, to its edges: the 200th frame and the next one, the 16th event and the next one, a wait of 1000 and one less. */
public final class Promise23Test {
    private static final int LOST = 0, REFUSED = 1, EVENTS = 2, ANSWERS = 3, ENDED = 4;
    private static final String HEAD = "controller a\ncontroller b\ntask t a 1 20000 0 1\ntask u b 1 20000 0 1\nchart c t 1\nchart e u 1\ndatum c d -1\n"
        + "datum e f 1\n";

    public static void main(String[] args) {
        Checks.promise(23);
        noneYet();
        twoHundredFrames();
        lostInOrder();
        lostMessages();
        refusedFrames();
        lostEvents();
        answers();
        senderWaits();
        receiverWaits();
        eachReceiverWaits();
        onceForAQuestion();
        twoSidesAtOnce();
        anotherAtTheReceiver();
        othersDoNothing();
        lostReachesNobody();
        refusals();
        Checks.end("Promise23Test");
    }

    private static void counts(String what, CarHouse x, int which, int want) {
        Checks.due(what + ": counted(" + which + ") at " + x.time(), want, () -> x.counted(which));
    }

    private static void noneYet() {
        CarHouse x = Checks.carOf(HEAD);
        for (int what = 0; what < 5; what++) {
            counts("a new car", x, what, 0);
            counts("without a car", new CarHouse(), what, 0);
        }
    }

    /** 39 frames of 500 and one of 700: 198 were made by 2500. */
    private static CarHouse almostFull() {
        CarHouse x = Checks.carOf(HEAD + Faults.many(39, "signal s% 64 c d 500") + "signal n 64 c d 700");
        x.run(2501);
        return x;
    }

    private static void twoHundredFrames() {
        CarHouse x = almostFull();
        counts("198 frames", x, LOST, 0);
        x.run(300);
        counts("199 frames", x, LOST, 0);
        x.run(199);
        counts("before 3000", x, LOST, 0);
        x.run(1);
        counts("the 200th has room, 38 have none", x, LOST, 38);
        Checks.due("all were sent", 6 * 39 + 4, () -> {
            int sent = 0;
            for (int i = 0; i < 40; i++) {
                sent += x.frame(i, 4);
            }
            return sent;
        });
        CarHouse asked = almostFull();
        Checks.say(asked, 25);
        asked.ask(0);
        asked.run(1);
        counts("a question is the 199th", asked, LOST, 0);
        asked.run(299);
        counts("the 200th has room", asked, LOST, 0);
        asked.run(200);
        counts("none of 39 has", asked, LOST, 39);
        asked.run(500);
        counts("nor later ones", asked, LOST, 2 * 39 + 1);
        asked.system();
        counts("another car", asked, LOST, 0);
    }

    /** Frames are sent in the order of their numbers: of 30 in each turn those of b are lost, from the sixth of its fifteen on. */
    private static void lostInOrder() {
        CarHouse x = Checks.carOf(HEAD.replace("datum e f 1", "datum e f 0") + Faults.many(15, "signal s% 64 c d 500") + Faults.many(15, "signal r% 64 e f 500"));
        x.run(3001);
        counts("180 frames", x, LOST, 0);
        x.run(500);
        counts("210 frames", x, LOST, 10);
        x.run(16499);
        Checks.due("all of a had room: those that b took, and that wait", 105, () -> x.node(1, 2) + x.node(0, 1));
        Checks.due("ten of b's had none", 95, () -> x.node(0, 2) + x.node(1, 1));
    }

    private static void lostMessages() {
        CarHouse x = almostFull();
        x.run(500);
        counts("all room is gone", x, LOST, 38);
        Checks.say(x, 25);
        x.ask(1);
        counts("asking alone loses nothing", x, LOST, 38);
        x.run(1);
        counts("a single frame is lost", x, LOST, 39);
        Checks.due("nothing waits at the tester", 0, () -> x.node(2, 1));
        x.run(100);
        counts("once", x, LOST, 39);
        Checks.due("it stays asked", 1, x::asking);
        CarHouse first = almostFull();
        first.run(500);
        Checks.say(first, 1, 2, 3, 4, 5, 6, 7, 8);
        first.ask(1);
        first.run(1);
        counts("a first frame is lost", first, LOST, 39);
        first.run(998);
        counts("its sender waits", first, ENDED, 0);
        first.run(1);
        counts("and ends", first, ENDED, 1);
    }

    private static void refusedFrames() {
        String[] car = {"controller a", "controller b", "controller k", "task t a 1 20000 0 1", "chart c t 1", "datum c d 5", "signal g 8 c d 500", "protect a 500 3"};
        CarHouse twin = Checks.carOf(car);
        twin.run(501);
        while (twin.node(0, 1) == 1) {
            twin.run(1);
        }
        CarHouse x = Checks.carOf(car);
        x.flip(0, twin.time() - 1);
        x.run(990);
        // The sender saw a 0 at its last END, so it sent the frame again: both others had taken it.
        counts("each controller for itself, but not the tester", x, REFUSED, 2);
        x.run(500);
        counts("the next one is taken", x, REFUSED, 2);
        CarHouse none = Checks.carOf(car);
        none.run(20000);
        counts("none of 39 frames", none, REFUSED, 0);
    }

    private static void lostEvents() {
        for (int reads : new int[] {16, 17, 60}) {
            CarHouse x = Checks.carOf(HEAD + "signal s 8 c d 500\n" + Faults.many(reads, "read s e f 1"));
            x.run(900);
            counts(reads + " events", x, EVENTS, reads - 16);
        }
        CarHouse none = Checks.carOf(HEAD + "signal s 8 c d 500\n" + Faults.many(60, "read s e f 0"));
        none.run(900);
        counts("event 0 is none", none, EVENTS, 0);
    }

    private static void answers() {
        CarHouse x = Checks.carOf(HEAD);
        for (int i = 1; i <= 5; i++) {
            Checks.say(x, 25);
            x.ask(i % 2);
            counts("asked", x, ANSWERS, i - 1);
            x.run(400);
            counts("answered", x, ANSWERS, i);
        }
        x.run(1000);
        counts("each once", x, ANSWERS, 5);
        counts("none ended", x, ENDED, 0);
        // Four frames for each question and its answer: as many as the time allows.
        CarHouse many = Checks.carOf(HEAD);
        for (int i = 1; i <= 36; i++) {
            Checks.same("answer " + i, "98 1 0 255 255 255 255 255 255 255 255", Checks.asked(many, 0, 550, 34, 1, 0));
            counts("answer " + i, many, ANSWERS, i);
        }
        counts("nothing was lost", many, LOST, 0);
    }

    /** The bus is full of frames that come before those of questions. */
    private static CarHouse crowded() {
        CarHouse x = Checks.carOf(HEAD + Faults.many(20, "signal s% 64 c d 500"));
        x.run(600);
        return x;
    }

    private static void senderWaits() {
        for (int octets : new int[] {7, 8, 100}) {
            CarHouse x = crowded();
            for (int i = 0; i < octets; i++) {
                Checks.say(x, 7);
            }
            x.ask(1);
            x.run(999);
            counts(octets + " octets, 999 ticks", x, ENDED, 0);
            Checks.due("still asked", 1, x::asking);
            x.run(1);
            counts(octets + " octets, 1000 ticks", x, ENDED, octets > 7 ? 1 : 0);
            Checks.due("asked or not", octets > 7 ? -1 : 1, x::asking);
        }
    }

    /** The tester is kept from sending CONSECUTIVE frames, so that the controller waits for the next one: 1000 ticks since the last one. */
    private static void receiverWaits() {
        for (int heard = 1; heard <= 2; heard++) {
            CarHouse x = Checks.carOf("controller a");
            for (int i = 0; i < 20; i++) {
                Checks.say(x, 255);
            }
            x.ask(0);
            while (x.node(0, 2) < heard) {
                x.run(1);
            }
            int reached = x.time();
            while (x.node(1, 2) == 0) {
                x.run(1);
            }
            for (int t = Math.max(x.time(), reached) + 20; t < reached + 1400; t += 12) {
                x.flip(1, t);
            }
            // The TRANSFER's time was one less than the time when the frame reached the other side.
            x.run(reached + 998 - x.time());
            counts("999 ticks behind frame " + heard, x, ENDED, 0);
            Checks.due("still asked", 0, x::asking);
            Checks.due("nothing more was taken", heard, () -> x.node(0, 2));
            x.run(1);
            counts("1000 ticks behind frame " + heard, x, ENDED, 1);
            Checks.due("not any more", -1, x::asking);
            x.run(2000);
            Checks.due("the other frames came", 3, () -> x.node(0, 2));
            Checks.due("they do nothing", 0, x::answers);
            counts("no answer", x, ANSWERS, 0);
            Checks.due("the controller sent its FLOW alone", 1, () -> x.node(1, 2) + x.node(0, 1));
        }
    }

    /** Message 1 to 5, so each of the four receivers: questions, if odd, else answers, of which the second frame does not come. */
    private static void eachReceiverWaits() {
        for (int message = 1; message <= 5; message++) {
            CarHouse x = Checks.carOf("controller a", "task t a 1 20000 0 1", "chart c t 1", "datum c d -1");
            for (int before = 1; before + 1 < message + message % 2; before += 2) {
                Checks.same("two messages", "89 0", Checks.asked(x, 0, 300, 25));
            }
            boolean question = message % 2 == 1;
            Checks.say(x, question ? new int[] {255, 255, 255, 255, 255, 255, 255, 255} : new int[] {34, 1, 0});
            x.ask(0);
            int taker = question ? 0 : 1;
            int reached = untilTaken(x, taker, x.node(taker, 2) + 1);
            untilTaken(x, 1 - taker, x.node(1 - taker, 2) + 1);
            for (int t = x.time() + 20; t < reached + 1100; t += 11) {
                x.flip(1 - taker, t);
            }
            x.run(reached + 998 - x.time());
            Checks.due("message " + message + ", 999 ticks", 0, x::asking);
            counts("message " + message + ", 999 ticks", x, ENDED, 0);
            x.run(1);
            Checks.due("message " + message + ", 1000 ticks", -1, x::asking);
            counts("message " + message + ", 1000 ticks", x, ENDED, 1);
        }
    }

    /** The sender of the first question ends 1000 ticks behind its FIRST, its receiver later: then another question may be asked. */
    private static void onceForAQuestion() {
        CarHouse x = Checks.carOf("controller a", "controller b");
        Checks.say(x, 1, 2, 3, 4, 5, 6, 7, 8);
        x.ask(0);
        while (x.node(0, 2) == 0) {
            x.run(1);
        }
        int reached = x.time();
        // The tester is kept from taking the FLOW, and from sending, as it sees errors.
        for (int t = reached + 10; t < reached + 1100; t += 11) {
            x.flip(2, t);
        }
        x.run(999 - x.time());
        counts("999 ticks", x, ENDED, 0);
        x.run(1);
        counts("the sender", x, ENDED, 1);
        Checks.say(x, 25);
        x.ask(1);
        x.run(reached + 998 - x.time());
        Checks.due("another question", 1, x::asking);
        counts("999 ticks behind FIRST at its receiver", x, ENDED, 1);
        x.run(1);
        counts("a side of any message ends what is asked", x, ENDED, 2);
        Checks.due("nothing is asked", -1, x::asking);
        x.run(1500);
        counts("once", x, ENDED, 2);
        // A side that ends while nothing is asked counts for nothing.
        CarHouse y = Checks.carOf("controller a", "controller b");
        Checks.say(y, 1, 2, 3, 4, 5, 6, 7, 8);
        y.ask(0);
        while (y.node(0, 2) == 0) {
            y.run(1);
        }
        for (int t = reached + 10; t < reached + 1100; t += 11) {
            y.flip(2, t);
        }
        y.run(5000);
        counts("the sender's end alone", y, ENDED, 1);
    }

    /** A question whose FIRST is kept from a for some 1200 microseconds, as the tester sees errors, so that its sender ends; then one is kept from b. */
    private static CarHouse keptFirst(int second) {
        CarHouse x = Checks.carOf("controller a", "controller b");
        for (int t = 10; t < 1200; t += 11) {
            x.flip(2, t);
        }
        for (int t = 1400; second > 0 && t < 2600; t += 11) {
            x.flip(2, t);
        }
        Checks.say(x, 1, 2, 3, 4, 5, 6, 7, 8);
        x.ask(0);
        x.run(1001);
        counts("the first question's sender", x, ENDED, 1);
        return x;
    }

    /** The second question begins in the very microsecond in which the first one's FIRST is taken: its sender and that one's receiver end at one time. */
    private static void twoSidesAtOnce() {
        int taken = untilTaken(keptFirst(0), 0, 1);
        for (int early = 0; early < 2; early++) {
            CarHouse x = keptFirst(1);
            x.run(taken - 1 - early - x.time());
            Checks.say(x, 1, 2, 3, 4, 5, 6, 7, 8);
            x.ask(1);
            x.run(999);
            Checks.due("999 ticks", 1, x::asking);
            counts("999 ticks", x, ENDED, 1);
            Checks.due("b took FIRST of the first question, and nothing else", 1, () -> x.node(1, 2));
            x.run(1);
            Checks.due("1000 ticks", -1, x::asking);
            counts("1000 ticks: that counts once", x, ENDED, 2);
            x.run(100);
            counts("and that is all", x, ENDED, 2);
        }
    }

    /**
     * Message 5 goes to the receiver that waits for the rest of message 1: that one's receiving ends, and with it what is asked.
     * Messages 1 and 2 are questions whose senders ended before their frames came through; 3 is a question, 4 its answer.
     */
    private static void anotherAtTheReceiver() {
        for (int octets = 1; octets <= 8; octets += 7) {
            CarHouse x = Checks.carOf("controller a");
            for (int t = 10; t < 2000; t += 11) {
                x.flip(1, t);
            }
            for (int i = 1; i <= 2; i++) {
                Checks.say(x, 1, 2, 3, 4, 5, 6, 7, 8);
                x.ask(0);
                x.run(1000);
                counts("the sender of message " + i, x, ENDED, i);
            }
            Checks.due("nothing came through", 0, () -> x.node(0, 2));
            Checks.say(x, 25);
            x.ask(0);
            while (x.asking() == 0 && x.time() < 4000) {
                x.run(1);
            }
            Checks.same("message 4 is the answer to 3", "89 0", Checks.answerOf(x));
            counts("nothing more ended", x, ENDED, 2);
            int taken = x.node(0, 2);
            for (int i = 0; i < octets; i++) {
                Checks.say(x, 20);
            }
            x.ask(0);
            while (x.node(0, 2) == taken) {
                Checks.due("message 5 is asked", 0, x::asking);
                counts("up to its first frame", x, ENDED, 2);
                x.run(1);
            }
            counts("with it the receiving of message 1 ends", x, ENDED, 3);
            Checks.due("and what is asked", -1, x::asking);
            x.run(900);
            Checks.due("its answer is passed over", 0, x::answers);
            counts("one answer", x, ANSWERS, 1);
            // Of eight octets it is received anew: FLOWs for 1, 2 and 5, and the answers 4 and 6.
            Checks.due("what the tester took in all", octets == 1 ? 4 : 5, () -> x.node(1, 2));
        }
    }

    /** Message 1 is a question to b of two frames, 2 a question to a with its answer 3, 4 one with the answer 5 of two frames. */
    private static CarHouse fiveMessages(int... nodesAndTimes) {
        CarHouse x = Checks.carOf("controller a", "controller b", "task t a 1 20000 0 1", "chart c t 1", "datum c d 5");
        for (int i = 0; i < nodesAndTimes.length; i += 2) {
            x.flip(nodesAndTimes[i], nodesAndTimes[i + 1]);
        }
        Checks.say(x, 1, 2, 3, 4, 5, 6, 7, 8);
        x.ask(1);
        if (nodesAndTimes.length > 0) {
            x.run(1500);
            Checks.same("message 3", "89 0", Checks.asked(x, 0, 400, 25));
            Checks.say(x, 34, 1, 0);
            x.ask(0);
        }
        return x;
    }

    private static int untilTaken(CarHouse x, int node, int frames) {
        while (x.node(node, 2) < frames && x.time() < 9000) {
            x.run(1);
        }
        return x.time();
    }

    /**
     * The last frames of messages 1 and 5 are kept from b and from the tester, by flips at their sixth END, and from being sent again, by flips at the
     * senders' seventh. Then b is shown a frame by which that of message 1 reaches the receiver that waits for the rest of message 5: that one's
     * time goes on from its FIRST, as if nothing had come.
     */
    private static void othersDoNothing() {
        int one = untilTaken(fiveMessages(), 1, 2) - 1;
        int five = untilTaken(fiveMessages(1, one, 2, one + 1), 2, 4) - 1;
        CarHouse x = fiveMessages(1, one, 2, one + 1, 2, five, 0, five + 1);
        counts("the receiver of message 1", x, ENDED, 1);
        int reached = untilTaken(x, 2, 3);
        x.run(five + 60 - x.time());
        Checks.due("all frames are DONE", 0, () -> x.node(0, 1) + x.node(1, 1) + x.node(2, 1));
        Checks.due("the tester misses one", 3, () -> x.node(2, 2));
        int before = x.node(1, 2);
        new Shown(0, 1538, 8).show(x, 1);
        untilTaken(x, 1, before + 1);
        Checks.due("b took what it was shown", before + 1, () -> x.node(1, 2));
        Checks.due("later than FIRST came", 1, () -> x.time() > reached + 300 ? 1 : 0);
        x.run(reached + 998 - x.time());
        Checks.due("999 ticks behind FIRST: still asked", 0, x::asking);
        counts("999 ticks behind FIRST", x, ENDED, 1);
        x.run(1);
        Checks.due("1000 ticks: not any more", -1, x::asking);
        counts("1000 ticks", x, ENDED, 2);
    }

    /**
     * The bus has no room for a question's frame, so it is lost in the TRANSFER, too: a frame of its identifier, which flips show to a,
     * brings nothing. With room for it, it does.
     */
    private static void lostReachesNobody() {
        for (int room = 0; room < 2; room++) {
            // b sends 20 frames each 500: 180 by 4500, 200 by 5000.
            int asked = room == 1 ? 4600 : 5100;
            CarHouse x = shownQuestion(asked);
            counts(room == 1 ? "there is room" : "there is none", x, LOST, 1 - room);
            Checks.due("a took the frame", 1, () -> x.node(0, 2) - taken(asked));
            Checks.due(room == 1 ? "the question reached a, and it answers" : "nothing reached a", room, () -> x.node(0, 1));
        }
    }

    private static CarHouse crowdedByB(int asked) {
        CarHouse x = Checks.carOf(HEAD.replace("datum e f 1", "datum e f -1") + Faults.many(20, "signal s% 64 e f 500"));
        x.run(asked);
        Checks.say(x, 25);
        x.ask(0);
        x.run(1);
        return x;
    }

    private static int taken(int asked) {
        return crowdedByB(asked).node(0, 2);
    }

    /** The flips that make a, once it is quiet or pauses, see ones, and then a frame 1536, are found bit by bit. */
    private static CarHouse shownQuestion(int asked) {
        List<Integer> wire = new Shown(0, 1536, 8, 0, 25, 0, 0, 0, 0, 0, 0).lay();
        List<Integer> seen = new ArrayList<>();
        // Ones for so long that whatever a was, it has flagged, waited, cleared and paused.
        for (int i = 0; i < 60; i++) {
            seen.add(1);
        }
        seen.addAll(wire);
        for (int i = 0; i < 10; i++) {
            seen.add(i == 0 ? 0 : 1);
        }
        CarHouse probe = crowdedByB(asked);
        int from = probe.time();
        List<Integer> flips = new ArrayList<>();
        int last = from + 60 + wire.size() + 7;
        for (int t = from; t <= last; t++) {
            CarHouse x = crowdedByB(asked);
            flips.forEach(at -> x.flip(0, at));
            x.run(t + 1 - x.time());
            if (x.bit(t) != seen.get(t - from)) {
                flips.add(t);
            }
        }
        CarHouse x = crowdedByB(asked);
        flips.forEach(at -> x.flip(0, at));
        x.run(last + 1 - x.time());
        return x;
    }

    private static CarHouse halfway() {
        CarHouse x = Checks.carOf(HEAD + "signal s 8 c d 500\n" + Faults.many(20, "read s e f 1"));
        Checks.asked(x, 0, 900, 25);
        return x;
    }

    private static void refusals() {
        for (int what : new int[] {-1, 5, Integer.MIN_VALUE, Integer.MAX_VALUE}) {
            Checks.refused("counted(" + what + ")", IllegalArgumentException.class, Promise23Test::halfway, x -> x.counted(what));
            Checks.refused("counted(" + what + ") without a car", IllegalArgumentException.class, CarHouse::new, x -> x.counted(what));
        }
        CarHouse x = halfway();
        counts("four events", x, EVENTS, 4);
        Checks.tell(x, "x");
        x.system();
        for (int what = 0; what < 5; what++) {
            counts("behind a fault", x, what, 0);
        }
    }
}
