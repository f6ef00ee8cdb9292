/** Promise 10, time, to its edges: 0 without a car, 20000 at most. */
public final class Promise10Test {
    public static void main(String[] args) {
        Checks.promise(10);
        CarHouse x = new CarHouse();
        Checks.due("without a car", 0, x::time);
        Checks.tell(x, "controller a");
        Checks.due("a text is no car", 0, x::time);
        x.system();
        Checks.due("of a new car", 0, x::time);
        x.run(0);
        Checks.due("behind no time", 0, x::time);
        x.run(1);
        Checks.due("behind one microsecond", 1, x::time);
        Checks.thrown("run(-1)", IllegalArgumentException.class, () -> x.run(-1));
        Checks.thrown("run(20000)", IllegalStateException.class, () -> x.run(20000));
        Checks.due("a refused run does not let it go by", 1, x::time);
        x.run(19998);
        Checks.due("one before the end", 19999, x::time);
        Checks.thrown("run(2)", IllegalStateException.class, () -> x.run(2));
        Checks.due("still", 19999, x::time);
        x.run(1);
        Checks.due("at the end", 20000, x::time);
        Checks.thrown("run(1)", IllegalStateException.class, () -> x.run(1));
        Checks.due("not beyond it", 20000, x::time);
        x.system();
        Checks.due("another car", 0, x::time);
        x.run(7);
        Checks.tell(x, "\nx");
        Checks.due("of the car, whatever the text is", 7, x::time);
        x.system();
        Checks.due("no car behind a fault", 0, x::time);
        x.cut(12);
        Checks.due("nor by a cut", 0, x::time);
        x.system();
        Checks.due("a third car", 0, x::time);
        for (int i = 5; i <= 16; i++) {
            x.system();
        }
        x.run(9);
        Checks.thrown("system() for the 17th time", IllegalStateException.class, x::system);
        Checks.due("is no new car", 9, x::time);
        Checks.end("Promise10Test");
    }
}
