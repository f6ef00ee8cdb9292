import java.util.ArrayList;
import java.util.List;
import java.util.function.LongSupplier;
import java.util.function.Supplier;
import java.util.function.ToLongFunction;

/** What the tests of the project share: answers that are due, texts told to a house, frames read off the bus. */
final class Checks {
    private static int wrong;
    private static int looked;
    private static String prefix = "";

    private Checks() {
    }

    /** What is looked at from here on belongs to a promise of the document. */
    static void promise(int number) {
        prefix = "promise " + number + ": ";
    }

    static void due(String what, long want, LongSupplier call) {
        same(what, Long.toString(want), answerTo(call));
    }

    /** The very exception: what the machine throws by itself is of classes below these. */
    static void thrown(String what, Class<? extends RuntimeException> want, LongSupplier call) {
        same(what, want.getSimpleName(), answerTo(call));
    }

    static String answerTo(LongSupplier call) {
        try {
            return Long.toString(call.getAsLong());
        } catch (RuntimeException e) {
            return e.getClass().getSimpleName();
        }
    }

    /** A refused call changes nothing: a house that it was called on and a twin on which it was not have the same story from then on. */
    static void refused(String what, Class<? extends RuntimeException> want, Supplier<CarHouse> make, ToLongFunction<CarHouse> call) {
        CarHouse x = make.get();
        thrown(what, want, () -> call.applyAsLong(x));
        same(what + " changes nothing", Story.of(make.get()), Story.of(x));
    }

    static void same(String what, String want, String got) {
        looked++;
        if (!want.equals(got)) {
            wrong++;
            System.out.println(prefix + what + ": answered " + got + ", due is " + want);
        }
    }

    static void end(String name) {
        System.out.println(name + ": " + looked + " answers, " + wrong + " wrong");
        if (wrong != 0 || looked == 0) {
            System.exit(1);
        }
    }

    static long done(Runnable call) {
        call.run();
        return 0;
    }

    static CarHouse carOf(String... lines) {
        CarHouse x = new CarHouse();
        tell(x, String.join("\n", lines));
        due("system() of " + lines[0] + " ..", 0, x::system);
        return x;
    }

    static void tell(CarHouse x, String text) {
        for (int i = 0; i < text.length(); i += 16) {
            x.text(four(text, i), four(text, i + 4), four(text, i + 8), four(text, i + 12));
        }
    }

    static int four(String text, int from) {
        int v = 0;
        for (int i = from; i < from + 4; i++) {
            v = v << 8 | (i < text.length() ? text.charAt(i) : 0);
        }
        return v;
    }

    static void say(CarHouse x, int... octets) {
        for (int octet : octets) {
            x.say((byte) octet);
        }
    }

    static String answerOf(CarHouse x) {
        StringBuilder told = new StringBuilder();
        for (int i = 0; i < x.answers(); i++) {
            told.append(i == 0 ? "" : " ").append(x.answer(i));
        }
        return told.toString();
    }

    /** Asks, lets time go by, and tells the answer. */
    static String asked(CarHouse x, int controller, int micros, int... octets) {
        say(x, octets);
        x.ask(controller);
        x.run(micros);
        return answerOf(x);
    }

    /** The frame of kind 0 that begins at a bit time: its identifier, then its octets, then its check, right or not. */
    static String frameAt(CarHouse x, int start) {
        List<Integer> plain = new ArrayList<>();
        int t = start;
        int same = 0;
        int last = -1;
        while (plain.size() < 98) {
            int bit = x.bit(t++);
            if (same == 5) {
                same = 1;
            } else {
                plain.add(bit);
                same = bit == last ? same + 1 : 1;
            }
            last = bit;
        }
        StringBuilder told = new StringBuilder().append(number(plain, 1, 11)).append(" |");
        for (int i = 0; i < 8; i++) {
            told.append(' ').append(number(plain, 19 + 8 * i, 8));
        }
        int check = 0;
        for (int i = 0; i < 83; i++) {
            int high = check >> 14 & 1;
            check = check << 1 & 0x7fff;
            check ^= high != plain.get(i) ? 0x4599 : 0;
        }
        boolean right = check == number(plain, 83, 15) && number(plain, 12, 7) == 8;
        return told.append(right ? " | right" : " | wrong").toString();
    }

    private static int number(List<Integer> bits, int from, int count) {
        int v = 0;
        for (int i = from; i < from + count; i++) {
            v = v << 1 | bits.get(i);
        }
        return v;
    }
}
