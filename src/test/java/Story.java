import java.util.function.IntBinaryOperator;
import java.util.function.LongSupplier;

/** All that a house answers, now and behind some calls more, as one text: two houses that differ in anything are told apart by it. */
final class Story {
    private static final int LATE = 400;
    private final CarHouse x;
    private final StringBuilder told = new StringBuilder();

    private Story(CarHouse x) {
        this.x = x;
    }

    /** The house is used up by this: what was said, told, planted and made shows only by going on with it. */
    static String of(CarHouse x) {
        Story story = new Story(x);
        story.tellFace();
        story.goOn();
        story.askAgain();
        story.makeAgain();
        return story.told.toString();
    }

    /** What can be looked at without changing anything. */
    static String faceOf(CarHouse x) {
        Story story = new Story(x);
        story.tellFace();
        return story.told.toString();
    }

    private void add(String what, LongSupplier call) {
        told.append(what).append(' ').append(Checks.answerTo(call)).append('\n');
    }

    private int countOf(LongSupplier call) {
        try {
            return (int) call.getAsLong();
        } catch (RuntimeException e) {
            return 0;
        }
    }

    private void tellFace() {
        add("time", x::time);
        add("place", x::place);
        add("asking", x::asking);
        add("answers", x::answers);
        for (int i = 0; i < x.answers(); i++) {
            int octet = i;
            add("answer", () -> x.answer(octet));
        }
        for (int what = 0; what < 7; what++) {
            int w = what;
            add("count", () -> x.count(w));
        }
        for (int what = 0; what < 5; what++) {
            int w = what;
            add("counted", () -> x.counted(w));
        }
        tellRows();
        tellCharts();
        tellPast();
    }

    private void rows(String what, int rows, int columns, IntBinaryOperator call) {
        for (int i = 0; i < rows; i++) {
            for (int k = 0; k < columns; k++) {
                int row = i;
                int column = k;
                add(what + " " + row + " " + column, () -> call.applyAsInt(row, column));
            }
        }
    }

    private void tellRows() {
        rows("frame", countOf(() -> x.count(4)), 5, x::frame);
        rows("signal", countOf(() -> x.count(3)), 2, (i, bit) -> x.signal(i, bit == 1));
        rows("node", countOf(() -> x.count(0)) + 1, 3, x::node);
        rows("task", countOf(() -> x.count(1)), 3, x::task);
        rows("trouble", countOf(() -> x.count(6)), 5, x::trouble);
        add("errors", () -> x.error(-1, 0));
        rows("error", countOf(() -> x.error(-1, 0)), 3, x::error);
    }

    private void tellCharts() {
        for (int i = 0; i < countOf(() -> x.count(2)); i++) {
            int chart = i;
            for (int state = 0; state < 12; state++) {
                int s = state;
                add("active", () -> x.active(chart, s));
            }
            for (int datum = 0; datum < 32; datum++) {
                int d = datum;
                add("value", () -> x.value(chart, d));
            }
        }
        rows("chart", countOf(() -> x.count(2)), 8, x::chart);
    }

    private void tellPast() {
        for (int t = Math.max(0, x.time() - LATE); t < x.time(); t++) {
            int at = t;
            add("bit", () -> x.bit(at));
            rows("running", countOf(() -> x.count(0)), 1, (c, none) -> x.running(c, at));
        }
    }

    private void pass(int micros) {
        add("run", () -> x.run(Math.min(micros, 20000 - x.time())));
        tellFace();
    }

    private void goOn() {
        pass(1);
        pass(150);
        pass(600);
        add("silence", () -> x.silence(0, false));
        add("cycle", () -> x.cycle(true));
    }

    private void askAgain() {
        add("say", () -> x.say((byte) 25));
        add("ask", () -> x.ask(0));
        pass(700);
        pass(2300);
    }

    /** A word that means nothing behind the text tells how long that is. */
    private void makeAgain() {
        add("system", x::system);
        tellFace();
        add("text", () -> Checks.done(() -> Checks.tell(x, "\n?")));
        for (int i = 0; i < 18; i++) {
            add("system", x::system);
            add("place", x::place);
        }
    }
}
