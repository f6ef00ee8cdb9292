/** Promise 3, cut, to its edges: from 0 up to as many characters as there are. */
public final class Promise03Test {
    private static final String TWO = "controller a\ncontroller b";

    public static void main(String[] args) {
        Checks.promise(3);
        bounds();
        whatStays();
        fullText();
        refusals();
        Checks.end("Promise03Test");
    }

    private static CarHouse told() {
        CarHouse x = new CarHouse();
        Checks.tell(x, TWO);
        return x;
    }

    private static void bounds() {
        CarHouse none = new CarHouse();
        Checks.due("0 of none", 0, () -> none.cut(0));
        Checks.thrown("1 of none", IllegalArgumentException.class, () -> none.cut(1));
        Checks.thrown("-1 of none", IllegalArgumentException.class, () -> none.cut(-1));
        CarHouse x = told();
        Checks.thrown("one more than there are", IllegalArgumentException.class, () -> x.cut(26));
        Checks.due("all", 25, () -> x.cut(25));
        Checks.due("all again", 25, () -> x.cut(25));
        Checks.due("one less", 24, () -> x.cut(24));
        Checks.thrown("what was cut does not come back", IllegalArgumentException.class, () -> x.cut(25));
        Checks.due("one", 1, () -> x.cut(1));
        Checks.thrown("one more than one", IllegalArgumentException.class, () -> x.cut(2));
        Checks.due("none", 0, () -> x.cut(0));
        Checks.thrown("one more than none", IllegalArgumentException.class, () -> x.cut(1));
        Checks.thrown("below 0", IllegalArgumentException.class, () -> x.cut(-1));
        Checks.thrown("far below 0", IllegalArgumentException.class, () -> x.cut(Integer.MIN_VALUE));
        Checks.thrown("far too many", IllegalArgumentException.class, () -> x.cut(Integer.MAX_VALUE));
    }

    /** The first ones stay, the car stays as it was made, and what comes then comes behind the cut. */
    private static void whatStays() {
        CarHouse x = told();
        x.system();
        x.cut(12);
        Checks.due("the car has two controllers yet", 2, () -> x.count(0));
        Checks.due("a car of what stayed", 0, x::system);
        Checks.due("has one", 1, () -> x.count(0));
        Checks.tell(x, "b");
        x.system();
        Checks.due("controller ab", 1, () -> x.count(0));
        x.cut(11);
        Checks.due("one character less than the name", 2, x::system);
        Checks.due("at the end", 11, x::place);
        Checks.tell(x, "z\ncontroller ab\ncontroller a");
        Checks.due("three names", 0, x::system);
        Checks.due("z, ab, a", 3, () -> x.count(0));
        x.cut(0);
        Checks.due("nothing stayed", 4, x::system);
        Checks.due("at 0", 0, x::place);
    }

    private static void fullText() {
        CarHouse x = new CarHouse();
        for (int i = 0; i < 375; i++) {
            Checks.tell(x, "                ");
        }
        Checks.thrown("6001", IllegalArgumentException.class, () -> x.cut(6001));
        Checks.due("6000", 6000, () -> x.cut(6000));
        Checks.due("5999", 5999, () -> x.cut(5999));
        Checks.thrown("6000 of 5999", IllegalArgumentException.class, () -> x.cut(6000));
    }

    private static void refusals() {
        for (int n : new int[] {26, -1, Integer.MAX_VALUE, Integer.MIN_VALUE}) {
            Checks.refused("cut(" + n + ") without a car", IllegalArgumentException.class, Promise03Test::told, x -> x.cut(n));
            Checks.refused("cut(" + n + ") with a car", IllegalArgumentException.class, () -> {
                CarHouse x = told();
                x.system();
                Checks.say(x, 16, 2);
                x.ask(1);
                x.run(77);
                return x;
            }, x -> x.cut(n));
        }
    }
}
