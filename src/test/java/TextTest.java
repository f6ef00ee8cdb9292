/** Promises 1 to 3: a new object, text, cut. */
public final class TextTest {
    public static void main(String[] args) {
        Checks.promise(1);
        newObject();
        Checks.promise(2);
        letters();
        fullText();
        Checks.promise(3);
        cutText();
        Checks.end("TextTest");
    }

    private static void newObject() {
        CarHouse x = new CarHouse();
        Checks.due("new: time()", 0, x::time);
        Checks.due("new: place()", 0, x::place);
        Checks.due("new: asking()", -1, x::asking);
        Checks.due("new: answers()", 0, x::answers);
        Checks.thrown("new: answer(0)", IndexOutOfBoundsException.class, () -> x.answer(0));
        Checks.due("new: cut(0)", 0, () -> x.cut(0));
        Checks.thrown("new: cut(1)", IllegalArgumentException.class, () -> x.cut(1));
        Checks.thrown("new: count(0)", IllegalStateException.class, () -> x.count(0));
        Checks.thrown("new: run(0)", IllegalStateException.class, () -> x.run(0));
        Checks.thrown("new: run(-1)", IllegalArgumentException.class, () -> x.run(-1));
        Checks.thrown("new: cycle(true)", IllegalStateException.class, () -> x.cycle(true));
        Checks.thrown("new: frame(0, 9)", IndexOutOfBoundsException.class, () -> x.frame(0, 9));
        Checks.thrown("new: signal(0, true)", IndexOutOfBoundsException.class, () -> x.signal(0, true));
        Checks.thrown("new: bit(0)", IndexOutOfBoundsException.class, () -> x.bit(0));
        Checks.thrown("new: node(0, 0)", IndexOutOfBoundsException.class, () -> x.node(0, 0));
        Checks.thrown("new: error(-1, 0)", IndexOutOfBoundsException.class, () -> x.error(-1, 0));
        Checks.thrown("new: flip(0, 0)", IndexOutOfBoundsException.class, () -> Checks.done(() -> x.flip(0, 0)));
        Checks.thrown("new: silence(0, true)", IndexOutOfBoundsException.class, () -> x.silence(0, true));
        Checks.thrown("new: running(0, 0)", IndexOutOfBoundsException.class, () -> x.running(0, 0));
        Checks.thrown("new: task(0, 0)", IndexOutOfBoundsException.class, () -> x.task(0, 0));
        Checks.thrown("new: active(0, 0)", IndexOutOfBoundsException.class, () -> x.active(0, 0));
        Checks.thrown("new: value(0, 0)", IndexOutOfBoundsException.class, () -> x.value(0, 0));
        Checks.thrown("new: chart(0, 0)", IndexOutOfBoundsException.class, () -> x.chart(0, 0));
        Checks.thrown("new: trouble(0, 0)", IndexOutOfBoundsException.class, () -> x.trouble(0, 0));
        Checks.thrown("new: ask(0)", IndexOutOfBoundsException.class, () -> x.ask(0));
        for (int what = 0; what < 5; what++) {
            int w = what;
            Checks.due("new: counted(" + w + ")", 0, () -> x.counted(w));
        }
        Checks.due("new: there was no octet of a question", 1, () -> x.say((byte) 1));
    }

    private static void letters() {
        CarHouse x = new CarHouse();
        // Zeros are left out wherever they stand, and the highest byte comes first.
        x.text('c' << 24 | 'o' << 8, 'n' << 16 | 't', 'r' << 24 | 'o' << 16 | 'l' << 8 | 'l', 'e' << 24 | 'r' << 16 | ' ' << 8 | 'a');
        Checks.due("12 characters", 12, () -> x.cut(12));
        Checks.thrown("not 13", IllegalArgumentException.class, () -> x.cut(13));
        Checks.due("controller a", 0, x::system);
        x.text(0, 0, 0, 0);
        Checks.thrown("zeros are no characters", IllegalArgumentException.class, () -> x.cut(13));
        x.text(-1, 0, 0, 0);
        Checks.due("bytes above 127 are characters", 16, () -> x.cut(16));
        Checks.due("but none of a name", CarHouse.WORDS, x::system);
        Checks.due("at the name", 11, x::place);
    }

    private static void fullText() {
        CarHouse x = new CarHouse();
        for (int i = 0; i < 374; i++) {
            Checks.tell(x, "                ");
        }
        Checks.due("5984 characters", 5984, () -> x.cut(5984));
        Checks.due("5990 characters", 5990, () -> x.cut(withSix(x)));
        Checks.thrown("16 more are too many", IllegalStateException.class,
            () -> Checks.done(() -> x.text(538976288, 538976288, 538976288, 538976288)));
        Checks.thrown("nothing came behind the text", IllegalArgumentException.class, () -> x.cut(5991));
        Checks.thrown("11 more are too many", IllegalStateException.class,
            () -> Checks.done(() -> x.text(538976288, 538976288, 0, 0x202020)));
        Checks.due("10 more are not", 0, () -> Checks.done(() -> x.text(538976288, 538976288, 0, 0x2020)));
        Checks.due("6000 characters", 6000, () -> x.cut(6000));
        Checks.due("none is more than none", 0, () -> Checks.done(() -> x.text(0, 0, 0, 0)));
        Checks.thrown("one is too many", IllegalStateException.class, () -> Checks.done(() -> x.text(0, 1, 0, 0)));
        Checks.due("spaces alone are no controller", CarHouse.NOTHING, x::system);
        Checks.due("told at the end", 6000, x::place);
    }

    private static int withSix(CarHouse x) {
        Checks.tell(x, "      ");
        return 5990;
    }

    private static void cutText() {
        CarHouse x = new CarHouse();
        Checks.tell(x, "controller a\ncontroller b");
        Checks.thrown("cut(-1)", IllegalArgumentException.class, () -> x.cut(-1));
        Checks.thrown("cut(26)", IllegalArgumentException.class, () -> x.cut(26));
        Checks.due("cut(25)", 25, () -> x.cut(25));
        x.system();
        Checks.due("two controllers", 2, () -> x.count(0));
        Checks.due("cut(12)", 12, () -> x.cut(12));
        Checks.due("the car does not change by that", 2, () -> x.count(0));
        x.system();
        Checks.due("one controller", 1, () -> x.count(0));
        Checks.thrown("what was cut does not come back", IllegalArgumentException.class, () -> x.cut(25));
        Checks.due("cut(0)", 0, () -> x.cut(0));
        Checks.due("no text", CarHouse.NOTHING, x::system);
    }
}
