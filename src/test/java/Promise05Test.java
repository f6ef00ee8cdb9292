/** Promise 5, place, to its edges: how many characters are before the faulty word, or before the end of a line that lacks one. */
public final class Promise05Test {
    public static void main(String[] args) {
        Checks.promise(5);
        none();
        firstAndLast();
        missingWords();
        behindTheText();
        ofTheLastCall();
        Checks.end("Promise05Test");
    }

    private static CarHouse told(String text) {
        CarHouse x = new CarHouse();
        Checks.tell(x, text);
        x.system();
        return x;
    }

    private static void place(String text, int want) {
        CarHouse x = told(text);
        Checks.due("place() of '" + text.replace('\n', '/') + "'", want, x::place);
    }

    private static void none() {
        CarHouse x = new CarHouse();
        Checks.due("before any system()", 0, x::place);
        Checks.tell(x, "    x");
        Checks.due("a text alone has no place", 0, x::place);
        Checks.due("place() of a car", 0, () -> told("   controller a").place());
    }

    private static void firstAndLast() {
        place("x", 0);
        place(" x", 1);
        place("\nx", 1);
        place("#\nx", 2);
        place("controller a\nx", 13);
        place("controller a\n\n\n   x y z", 18);
        place("controller a x", 13);
        place("controller a         x", 21);
        place("controller X", 11);
        place("controller      X", 16);
        // The first of two faults.
        place("x\ny", 0);
        place("controller A B", 11);
        StringBuilder full = new StringBuilder("controller a\n");
        while (full.length() < 5999) {
            full.append(' ');
        }
        place(full + "x", 5999);
    }

    private static void missingWords() {
        place("controller", 10);
        place("controller ", 11);
        place("controller\n", 10);
        place("controller  \ncontroller a", 12);
        place("controller #", 12);
        place("controller # a b", 16);
        place("controller # a b\ncontroller a", 16);
        place("   controller#", 3);
        place("controller a\ntask t a 1 500 0", 29);
        place("controller a\ntask t a 1 500 0 \n", 30);
    }

    private static void behindTheText() {
        place("", 0);
        place("\n", 1);
        place("#", 1);
        place("# x\n  ", 6);
        StringBuilder full = new StringBuilder();
        for (int i = 0; i < 6000; i++) {
            full.append(i % 7 == 0 ? '\n' : ' ');
        }
        place(full.toString(), 6000);
        String text = "controller a\ntask t a 1 500 0 1\nchart c t 1\ndatum c d 0\nsignal big 25 c d 500\nprotect a 500 1";
        place(text, text.indexOf("big"));
        // Of one that is told at the first word the spaces before it count.
        String own = "controller a\ntask t a 1 500 0 1\nchart c t 1\ndatum c d 0\nsignal g 8 c d 500\n";
        place(own + "   watch g a 1", own.length() + 3);
        place(own + "watch g a 1", own.length());
        place(own + "chart e t 1", own.length() + 8);
        place(own + "protect a 500 1\nprotect a   500 2", own.length() + 28);
    }

    private static void ofTheLastCall() {
        CarHouse x = told("controller a  b");
        Checks.due("the first call's", 14, x::place);
        x.cut(12);
        Checks.due("a cut changes nothing", 14, x::place);
        x.system();
        Checks.due("a car has none", 0, x::place);
        Checks.tell(x, "\n  y");
        Checks.due("a text changes nothing", 0, x::place);
        x.system();
        Checks.due("the third call's", 15, x::place);
        for (int i = 4; i <= 16; i++) {
            x.system();
        }
        x.cut(12);
        Checks.thrown("the 17th call", IllegalStateException.class, x::system);
        Checks.due("has no place of its own", 15, x::place);
    }
}
