/** Promise 25, ask, to its edges: the last controller, one octet and a hundred, something asked already, the 99th message and the next one. */
public final class Promise25Test {
    private static final String[] CAR = {"controller a", "controller b", "task t a 1 20000 0 1", "chart c t 1", "datum c d 5", "signal s 8 c d 500"};

    public static void main(String[] args) {
        Checks.promise(25);
        howMany();
        wholeWithTheLast();
        lengthOfTheFirst();
        eachController();
        noAnswerAnyMore();
        alreadyAsked();
        lastMessages();
        oddMessages();
        refusals();
        Checks.end("Promise25Test");
    }

    private static void howMany() {
        for (int octets : new int[] {1, 2, 6, 7, 8, 13, 14, 20, 21, 99, 100}) {
            CarHouse x = Checks.carOf("controller a");
            for (int i = 0; i < octets; i++) {
                Checks.say(x, 1);
            }
            Checks.due("so many octets", octets, () -> x.ask(0));
            // One frame up to seven; else a FIRST of six, a FLOW, and CONSECUTIVE ones of seven; and the answer.
            int frames = octets <= 7 ? 2 : 3 + (octets - 6 + 6) / 7;
            Checks.due(octets + " octets take so many frames", frames, () -> x.run(2500));
            Checks.same("the answer", "127 1 17", Checks.answerOf(x));
            Checks.due("there are none any more", 1, () -> x.say((byte) 1));
        }
    }

    /** A question is whole with its last frame, not with the one before: the answer waits in the same microsecond. */
    private static void wholeWithTheLast() {
        for (int octets = 8; octets <= 100; octets += octets < 30 ? 1 : 7) {
            CarHouse x = Checks.carOf("controller a");
            for (int i = 0; i < octets; i++) {
                Checks.say(x, 1);
            }
            x.ask(0);
            int frames = 1 + (octets - 6 + 6) / 7;
            while (x.node(0, 2) < frames - 1 || x.node(1, 2) == 0) {
                x.run(1);
            }
            // The FLOW has been taken, and with one bit more it is done.
            x.run(1);
            while (x.node(0, 2) < frames) {
                Checks.same(octets + " octets", "0", Integer.toString(x.node(0, 1)));
                x.run(1);
            }
            Checks.due(octets + " octets: the answer", 1, () -> x.node(0, 1));
        }
    }

    /** Octet 0 of FIRST has the lowest four bits of the length, of SINGLE none of it. */
    private static void lengthOfTheFirst() {
        for (int octets : new int[] {1, 7, 8, 15, 16, 17, 31, 32, 99, 100}) {
            CarHouse x = Checks.carOf("controller a");
            StringBuilder want = new StringBuilder("1536 | ").append(octets <= 7 ? 0 : 16 + octets % 16);
            for (int i = 0; i < octets; i++) {
                Checks.say(x, 200 + i % 50);
            }
            for (int i = 0; i < 7; i++) {
                want.append(' ').append(i < Math.min(octets, octets <= 7 ? 7 : 6) ? 200 + i : 0);
            }
            x.ask(0);
            x.run(300);
            Checks.same(octets + " octets", want + " | right", Checks.frameAt(x, 1));
        }
    }

    private static void eachController() {
        for (int c = 0; c < 6; c++) {
            CarHouse x = Checks.carOf(Faults.many(6, "controller q%"));
            Checks.say(x, 16, 2);
            x.ask(c);
            x.run(2);
            Checks.due("the tester's frame waits", 1, () -> x.node(6, 1));
            x.run(125);
            int controller = c;
            Checks.due("the one that is asked answers", 1, () -> x.node(controller, 1));
            x.run(200);
            Checks.same("the answer", "80 2", Checks.answerOf(x));
            for (int other = 0; other < 6; other++) {
                Checks.same("the session is of controller " + c + " alone", other == c ? "103 1 158 55 121 177" : "127 39 34", Checks.asked(x, other, 900, 39, 1));
            }
        }
    }

    private static void noAnswerAnyMore() {
        CarHouse x = Checks.carOf(CAR);
        Checks.same("the first answer", "89 0", Checks.asked(x, 0, 400, 25));
        Checks.say(x, 20);
        Checks.due("it stays while octets are said", 2, x::answers);
        x.ask(1);
        Checks.due("with the question it is no more", 0, x::answers);
        Checks.thrown("not an octet of it", IndexOutOfBoundsException.class, () -> x.answer(0));
        x.run(400);
        Checks.due("the second one", 84, () -> x.answer(0));
    }

    private static void alreadyAsked() {
        CarHouse x = Checks.carOf(CAR);
        Checks.say(x, 25);
        x.ask(0);
        Checks.say(x, 20);
        while (x.asking() == 0) {
            Checks.thrown("something is asked", IllegalStateException.class, () -> x.ask(1));
            x.run(1);
        }
        Checks.due("the octet was not taken by that", 1, () -> x.ask(1));
        Checks.due("behind the answer another one may be asked", 1, x::asking);
    }

    /** The 99th message is a question yet, the 100th its answer. */
    private static void lastMessages() {
        CarHouse x = Checks.carOf("controller a");
        for (int i = 0; i < 49; i++) {
            Checks.same("question " + i, "80 3", Checks.asked(x, 0, 250, 16, 3));
        }
        Checks.say(x, 16, 1);
        Checks.due("98 messages were made", 2, () -> x.ask(0));
        x.run(250);
        Checks.same("its answer is the 100th", "80 1", Checks.answerOf(x));
        Checks.say(x, 16, 1);
        Checks.thrown("100 were made", IllegalStateException.class, () -> x.ask(0));
        Checks.due("the answer is there yet", 2, x::answers);
        Checks.due("and the octets", 3, () -> x.say((byte) 1));
        Checks.thrown("no such controller comes first", IndexOutOfBoundsException.class, () -> x.ask(1));
        x.system();
        Checks.due("in another car they may be asked", 3, () -> x.ask(0));
    }

    /** One question that is never answered: then 49 with answers make 99 messages, and none is left for both. */
    private static CarHouse ninetyNine(int more) {
        CarHouse x = Checks.carOf("controller a");
        Checks.say(x, 1, 2, 3, 4, 5, 6, 7, 8);
        x.ask(0);
        for (int t = 10; t < 1000; t += 8) {
            x.flip(0, t);
        }
        x.run(1400);
        for (int i = 0; i < 48 + more; i++) {
            Checks.asked(x, 0, 250, 16, 2);
        }
        Checks.say(x, 16, 3);
        return x;
    }

    private static void oddMessages() {
        CarHouse x = ninetyNine(0);
        Checks.due("97 messages were made", 2, () -> x.ask(0));
        x.run(250);
        Checks.same("98 and 99", "80 3", Checks.answerOf(x));
        Checks.refused("99 messages were made", IllegalStateException.class, () -> ninetyNine(1), y -> y.ask(0));
    }

    private static CarHouse said() {
        CarHouse x = Checks.carOf(CAR);
        Checks.asked(x, 0, 490, 25);
        Checks.say(x, 34, 1, 0);
        x.run(30);
        return x;
    }

    private static void refusals() {
        for (int c : new int[] {-1, 2, 3, Integer.MIN_VALUE, Integer.MAX_VALUE}) {
            Checks.refused("ask(" + c + ")", IndexOutOfBoundsException.class, Promise25Test::said, x -> x.ask(c));
            Checks.refused("ask(" + c + ") while something is asked", IndexOutOfBoundsException.class, () -> {
                CarHouse x = said();
                x.ask(0);
                return x;
            }, x -> x.ask(c));
        }
        Checks.refused("ask(0) without a car", IndexOutOfBoundsException.class, () -> {
            CarHouse x = new CarHouse();
            Checks.say(x, 1);
            Checks.tell(x, "controller a");
            return x;
        }, x -> x.ask(0));
        Checks.refused("ask(0) without octets", IllegalStateException.class, () -> Checks.carOf(CAR), x -> x.ask(0));
        Checks.refused("ask(1) behind an answer without octets", IllegalStateException.class, () -> {
            CarHouse x = Checks.carOf(CAR);
            Checks.asked(x, 0, 400, 25);
            return x;
        }, x -> x.ask(1));
        Checks.refused("ask(1) while 0 is asked", IllegalStateException.class, () -> {
            CarHouse x = said();
            x.ask(0);
            Checks.say(x, 25);
            return x;
        }, x -> x.ask(1));
        Checks.refused("ask(0) while 0 is asked", IllegalStateException.class, () -> {
            CarHouse x = said();
            x.ask(0);
            Checks.say(x, 25);
            x.run(200);
            return x;
        }, x -> x.ask(0));
    }
}
