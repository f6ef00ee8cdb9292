/** Promise 13, error, to its edges: each kind at the first and the last bit where it can be, and one bit past that; and the row of errors. */
public final class Promise13Test {
    private static final int BIT = 0, STUFF = 1, FORM = 2, CHECK = 3, ACKNOWLEDGE = 4, OVERLOAD = 5;
    private static final String[] CAR = {"controller a", "controller b", "task t a 1 20000 0 1", "chart c t 1", "datum c d 4660", "signal s 16 c d 500"};
    private static final int END = lastEnd();

    public static void main(String[] args) {
        Checks.promise(13);
        none();
        sender();
        listener();
        sixthEqualBit();
        clearingAndPausing();
        orderOfErrors();
        manyErrors();
        refusals();
        Checks.end("Promise13Test");
    }

    /** The frame of 500 ends here: seven times END, before that ACKNOWLEDGE END, ACKNOWLEDGE and CHECK END. */
    private static int lastEnd() {
        CarHouse x = Checks.carOf(CAR);
        x.run(501);
        while (x.node(0, 1) == 1) {
            x.run(1);
        }
        return x.time() - 1;
    }

    private static CarHouse flipped(int node, int... times) {
        CarHouse x = Checks.carOf(CAR);
        for (int t : times) {
            x.flip(node, t);
        }
        x.run(990);
        return x;
    }

    private static void told(String what, CarHouse x, int i, int kind, int node, int t) {
        Checks.due(what + ": its kind", kind, () -> x.error(i, 0));
        Checks.due(what + ": its node", node, () -> x.error(i, 1));
        Checks.due(what + ": its bit time", t, () -> x.error(i, 2));
    }

    private static void none() {
        CarHouse x = flipped(0);
        Checks.due("no errors", 0, () -> x.error(-1, 0));
        Checks.thrown("error(0, 0)", IndexOutOfBoundsException.class, () -> x.error(0, 0));
        Checks.due("none before any time", 0, () -> Checks.carOf("controller a").error(-1, 0));
    }

    private static void sender() {
        for (int t : new int[] {500, 505, 507, 517, 540, END - 10, END - 9, END - 7, END - 6, END - 1, END}) {
            told("a bit seen otherwise at " + t, flipped(0, t), 0, BIT, 0, t);
        }
        told("1 at ACKNOWLEDGE", flipped(0, END - 8), 0, ACKNOWLEDGE, 0, END - 8);
        for (int t : new int[] {540, END - 8, END}) {
            CarHouse x = Checks.carOf(CAR);
            x.flip(0, t);
            Checks.due("not DONE with an error at " + t, 0, () -> x.run(END + 1));
            Checks.due("it stays in its row", 1, () -> x.node(0, 1));
            Checks.due("and is sent again", 1, () -> x.run(200));
            Checks.due("then it is no more there", 0, () -> x.node(0, 1));
        }
        CarHouse next = flipped(0, END + 1);
        told("behind the last END it pauses", next, 0, OVERLOAD, 0, END + 1);
        Checks.due("the frame is DONE then", 0, () -> next.node(0, 1));
        CarHouse lost = flipped(0, 506);
        Checks.due("a lost arbitration is no error of its own", STUFF, () -> lost.error(0, 0));
    }

    private static void listener() {
        told("0 at CHECK END", flipped(1, END - 9), 0, FORM, 1, END - 9);
        CarHouse acknowledge = flipped(1, END - 8);
        Checks.due("at ACKNOWLEDGE any bit will do", 0, () -> acknowledge.error(-1, 0));
        told("0 at ACKNOWLEDGE END", flipped(1, END - 7), 0, FORM, 1, END - 7);
        for (int end = 1; end <= 6; end++) {
            told("0 at END " + end, flipped(1, END - 7 + end), 0, FORM, 1, END - 7 + end);
        }
        CarHouse seventh = flipped(1, END);
        told("0 at END 7", seventh, 0, OVERLOAD, 1, END);
        Checks.due("it was taken by then", 1, () -> seventh.node(1, 2));
        Checks.due("with 0 at END 6 it is taken when it comes again", 1, () -> flipped(1, END - 1).node(1, 2));
        // An octet's bit seen otherwise: the check is wrong, told at ACKNOWLEDGE END if that is 1; if it is 0, that is a form error.
        told("a wrong check", flipped(1, 535), 0, CHECK, 1, END - 7);
        told("a wrong check, 0 at ACKNOWLEDGE END", flipped(1, 535, END - 7), 0, FORM, 1, END - 7);
        told("a wrong check, 0 at CHECK END", flipped(1, 535, END - 9), 0, FORM, 1, END - 9);
    }

    /** Of ones, which the quiet bus has, five are fine behind a 0, the sixth is an error; a 0 before it begins the count anew. */
    private static void sixthEqualBit() {
        CarHouse x = Checks.carOf("controller a");
        x.flip(0, 10);
        x.run(16);
        Checks.due("five ones", 0, () -> x.error(-1, 0));
        x.run(1);
        told("the sixth one", x, 0, STUFF, 0, 16);
        CarHouse y = Checks.carOf("controller a");
        y.flip(0, 10);
        y.flip(0, 16);
        y.run(22);
        Checks.due("a stuff bit 0, then five ones", 0, () -> y.error(-1, 0));
        y.run(1);
        // The stuff bit is a 0, so five ones behind it are five equal ones again.
        told("the sixth one behind a stuff bit", y, 0, STUFF, 0, 22);
        CarHouse zeros = Checks.carOf("controller a");
        for (int t = 10; t < 15; t++) {
            zeros.flip(0, t);
        }
        zeros.run(20);
        Checks.due("five zeros, a stuff bit, four ones", 0, () -> zeros.error(-1, 0));
        CarHouse six = Checks.carOf("controller a");
        for (int t = 10; t < 16; t++) {
            six.flip(0, t);
        }
        six.run(16);
        told("six zeros", six, 0, STUFF, 0, 15);
        CarHouse four = Checks.carOf("controller a");
        for (int t : new int[] {10, 11, 12, 13}) {
            four.flip(0, t);
        }
        four.run(19);
        Checks.due("four zeros, five ones", 0, () -> four.error(-1, 0));
        four.run(1);
        told("the sixth one behind four zeros", four, 0, STUFF, 0, 19);
    }

    /** As the quiet bus is flagged from 17 on, both nodes clear from 30 to 36 and pause from 37 to 39. */
    private static void clearingAndPausing() {
        for (int t = 30; t <= 42; t++) {
            CarHouse x = Checks.carOf("controller a");
            x.flip(0, 10);
            x.flip(0, t);
            x.run(60);
            if (t <= 35) {
                told("0 while it clears", x, 2, FORM, 0, t);
            } else if (t <= 38) {
                told("0 at the last clearing bit, or the first two of the pause", x, 2, OVERLOAD, 0, t);
            } else {
                told("0 at the third, or behind it, begins a frame", x, 2, STUFF, 0, t + 6);
            }
        }
    }

    private static void orderOfErrors() {
        CarHouse x = Checks.carOf(Faults.many(6, "controller q%"));
        x.flip(6, 10);
        x.flip(3, 9);
        x.run(60);
        // Node 3 errs at 15. Of its flag, from 16 on, the others see six zeros up to 21, node 6 too, to which the first one is a stuff bit that fits.
        Checks.due("seven errors", 7, () -> x.error(-1, 0));
        told("the first by time", x, 0, STUFF, 3, 15);
        int[] others = {0, 1, 2, 4, 5, 6};
        for (int i = 0; i < 6; i++) {
            told("of one time by nodes", x, i + 1, STUFF, others[i], 21);
        }
        Checks.thrown("error(7, 0)", IndexOutOfBoundsException.class, () -> x.error(7, 0));
    }

    /** An error at each first clearing bit: six bits of a flag and one of waiting are between them, so they are eight bit times apart. */
    private static void manyErrors() {
        CarHouse x = Checks.carOf("controller a");
        for (int t = 0; t < 1920; t += t == 0 ? 14 : 8) {
            x.flip(0, t);
            x.flip(1, t);
        }
        x.run(2000);
        Checks.due("all are told", 480, () -> x.error(-1, 0));
        told("the first one", x, 0, STUFF, 0, 6);
        told("the second one", x, 1, STUFF, 1, 6);
        told("the third one", x, 2, FORM, 0, 14);
        told("the last but one", x, 478, FORM, 0, 14 + 8 * 238);
        told("the last one", x, 479, FORM, 1, 14 + 8 * 238);
        Checks.thrown("none behind it", IndexOutOfBoundsException.class, () -> x.error(480, 0));
        // All seven clear from 30 on: what one sees there makes it flag, which the others see, up to clearing again nine bits later.
        CarHouse seven = Checks.carOf(Faults.many(6, "controller q%"));
        seven.flip(0, 10);
        for (int k = 0; k < 470; k++) {
            seven.flip(0, 30 + 9 * k);
        }
        seven.run(4300);
        Checks.due("as many as 500 calls can make", 7 * 471, () -> seven.error(-1, 0));
        told("the one that saw it first", seven, 7 * 470, FORM, 0, 30 + 9 * 469);
        told("the last one", seven, 7 * 471 - 1, FORM, 6, 31 + 9 * 469);
    }

    private static void refusals() {
        CarHouse x = flipped(0, 10);
        Checks.due("three errors", 3, () -> x.error(-1, 0));
        for (int what : new int[] {0, 1, 2}) {
            Checks.due("the last one is there", 1, () -> x.error(2, what) >= 0 ? 1 : 0);
            Checks.thrown("the next one is not", IndexOutOfBoundsException.class, () -> x.error(3, what));
            Checks.thrown("error(-2, " + what + ")", IndexOutOfBoundsException.class, () -> x.error(-2, what));
            Checks.thrown("without a car", IndexOutOfBoundsException.class, () -> new CarHouse().error(-1, what));
        }
        for (int what : new int[] {-1, 1, 2, 3}) {
            Checks.thrown("error(-1, " + what + ")", IndexOutOfBoundsException.class, () -> x.error(-1, what));
        }
        for (int what : new int[] {-1, 3, Integer.MIN_VALUE, Integer.MAX_VALUE}) {
            Checks.thrown("error(0, " + what + ")", IllegalArgumentException.class, () -> x.error(0, what));
            Checks.thrown("error(3, " + what + ")", IndexOutOfBoundsException.class, () -> x.error(3, what));
            Checks.refused("error(2, " + what + ")", IllegalArgumentException.class, () -> flipped(0, 10), y -> y.error(2, what));
        }
        for (int i : new int[] {3, -2, Integer.MIN_VALUE, Integer.MAX_VALUE}) {
            Checks.refused("error(" + i + ", 0)", IndexOutOfBoundsException.class, () -> flipped(0, 10), y -> y.error(i, 0));
        }
    }
}
