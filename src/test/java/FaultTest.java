/** Promises 4 and 5: system and place; the lines of a text, and each fault at its place, which ^ marks. */
public final class FaultTest {
    private static final String BASE = String.join("\n",
        "controller a", "controller b", "task t a 1 500 0 1", "task u b 1 500 0 1", "task v a 1 500 0 1", "chart c t 1", "chart e u 1",
        "datum c d 0", "datum e f 0", "state c s top plain", "state c h s history", "state c w s deep", "state c k s fork", "state c j s join",
        "edge c s s 1", "signal g 8 c d 500", "");

    public static void main(String[] args) {
        unknownWords();
        words();
        twice();
        nothing();
        numbers();
        tooMuch();
        noFit();
        tooLarge();
        order();
        fine();
        again();
        Checks.end("FaultTest");
    }

    private static void fault(int want, String marked) {
        CarHouse x = new CarHouse();
        Checks.tell(x, marked.replace("^", ""));
        String line = marked.substring(Math.max(0, Math.min(marked.length(), marked.indexOf('^')) - 40));
        Checks.due("system() at .. " + line, want, x::system);
        Checks.due("place() at .. " + line, marked.indexOf('^'), x::place);
        Checks.due("no car at .. " + line, 0, x::time);
        Checks.thrown("no car at .. " + line, IllegalStateException.class, () -> x.count(0));
    }

    private static void good(String text) {
        CarHouse x = new CarHouse();
        Checks.tell(x, text);
        Checks.due("system() of .. " + text.substring(Math.max(0, text.length() - 60)), 0, x::system);
        Checks.due("place() of a car", 0, x::place);
    }

    private static void unknownWords() {
        fault(1, "^bogus");
        fault(1, "^Controller a");
        fault(1, "controller a\n  ^controllers b");
        fault(1, "controller a\n^\tcontroller b");
        fault(1, BASE + "state c q top ^odd");
        fault(1, BASE + "state c q top ^Plain");
        fault(1, BASE + "edge c s s 0 if d ^is 1");
        fault(1, BASE + "edge c s s 0 if d ^e 1");
    }

    private static void words() {
        fault(2, "controller^");
        fault(2, "controller  ^");
        fault(2, "controller # none^\ncontroller b");
        fault(2, "controller^\ncontroller b");
        fault(2, "controller ^A");
        fault(2, "controller ^a_");
        fault(2, "controller ^1a");
        fault(2, "controller ^a#b");
        fault(2, "controller ^abcdefghijk");
        fault(2, "controller a ^b");
        fault(2, "task ^7");
        fault(2, BASE + "state c ^top top plain");
        fault(2, BASE + "datum c ^top 0");
        fault(2, BASE + "state c q top^");
        fault(2, BASE + "task r a 1 500 0^\n");
        fault(2, BASE + "task r a 1 500 0 1 ^1");
        fault(2, BASE + "edge c s s^");
        fault(2, BASE + "edge c s s 0 ^when d eq 1");
        fault(2, BASE + "edge c s s 0 if^");
        fault(2, BASE + "edge c s s 0 if d^");
        fault(2, BASE + "edge c s s 0 if d eq^ ".trim());
        fault(2, BASE + "edge c s s 0 if d eq 1 ^more");
        fault(2, BASE + "enter c s d 1 ^less");
        fault(2, BASE + "leave c s d 1 more ^more");
        fault(2, BASE + "take c d^");
        fault(2, BASE + "signal k 8 c d 500 ^turn");
        fault(2, BASE + "signal k 8 c d 500 turned ^x");
        fault(2, BASE + "protect a 500^");
        fault(2, BASE + "read g e f 1 ^1");
        fault(2, BASE + "watch g b 1 ^1");
        fault(2, BASE + "after c s 1 ^1");
    }

    private static void twice() {
        fault(3, "controller a\ncontroller ^a");
        fault(3, BASE + "task ^a a 1 500 0 1");
        fault(3, BASE + "chart ^t v 1");
        fault(3, BASE + "signal ^c 8 c d 500");
        fault(3, BASE + "controller ^g");
        fault(3, BASE + "state c ^s top plain");
        fault(3, BASE + "datum c ^d 1");
        fault(3, BASE + "protect a 500 1\nprotect b 500 1\nprotect a 501 1\nprotect a ^500 2");
        good(BASE + "state c d top plain\ndatum c s 1\nstate e s top plain\ndatum e d 1\nstate c g s plain");
    }

    private static void nothing() {
        fault(4, "^");
        fault(4, "# controller a\n\n   ^");
        fault(4, "task t ^a 1 500 0 1");
        fault(4, BASE + "task r ^t 1 500 0 1");
        fault(4, BASE + "chart n ^a 1");
        fault(4, BASE + "chart n ^none 1");
        fault(4, BASE + "state ^t q top plain");
        fault(4, BASE + "state c q ^f plain");
        fault(4, BASE + "state c q ^q plain");
        fault(4, BASE + "state c q ^9! plain");
        fault(4, BASE + "edge c ^top s 0");
        fault(4, BASE + "edge c s ^d 0");
        fault(4, BASE + "edge c s s 0 if ^f eq 1");
        fault(4, BASE + "edge c s s 0 if d eq ^f");
        fault(4, BASE + "edge c s s 0 if d eq ^1234567890");
        fault(4, BASE + "edge c s s 0 if d eq ^-");
        fault(4, BASE + "after c ^top 1");
        fault(4, BASE + "enter c s ^s 1");
        fault(4, BASE + "take c ^f 1");
        fault(4, BASE + "signal k 8 ^t d 500");
        fault(4, BASE + "signal k 8 c ^f 500");
        fault(4, BASE + "protect ^c 500 1");
        fault(4, BASE + "read ^c e f 1");
        fault(4, BASE + "read g ^b f 1");
        fault(4, BASE + "read g e ^d 1");
        fault(4, BASE + "watch ^a b 1");
        fault(4, BASE + "watch g ^e 1");
    }

    private static void numbers() {
        fault(5, BASE + "task r a ^-1 500 0 1");
        fault(5, BASE + "task r a ^256 500 0 1");
        fault(5, BASE + "task r a 255 ^499 0 1");
        fault(5, BASE + "task r a 0 ^20001 0 1");
        fault(5, BASE + "task r a 0 700 ^700 1");
        fault(5, BASE + "task r a 0 700 ^-1 1");
        fault(5, BASE + "task r a 0 700 699 ^0");
        fault(5, BASE + "task r a 0 700 699 ^1001");
        fault(5, BASE + "task r a 0 700 699 ^1x");
        fault(5, BASE + "chart n v ^51");
        fault(5, BASE + "chart n v ^-1");
        fault(5, BASE + "edge c s s ^100");
        fault(5, BASE + "edge c s s ^-1");
        fault(5, BASE + "edge c s s ^times");
        fault(5, BASE + "edge c s s 0 if d eq ^32");
        fault(5, BASE + "edge c s s 0 if d eq ^-1");
        fault(5, BASE + "after c s ^0");
        fault(5, BASE + "after c s ^20001");
        fault(5, BASE + "datum c n ^1000000000");
        fault(5, BASE + "datum c n ^--1");
        fault(5, BASE + "datum c n ^+1");
        fault(5, BASE + "enter c s d ^-1000000000");
        fault(5, BASE + "take c d ^more");
        fault(5, BASE + "signal k ^0 c d 500");
        fault(5, BASE + "signal k ^65 c d 500");
        fault(5, BASE + "signal k 8 c d ^499");
        fault(5, BASE + "signal k 8 c d ^20001");
        fault(5, BASE + "protect a ^499 1");
        fault(5, BASE + "protect a 500 ^0");
        fault(5, BASE + "protect a 500 ^17");
        fault(5, BASE + "read g e f ^100");
        fault(5, BASE + "watch g b ^0");
        fault(5, BASE + "watch g b ^256");
        good(BASE + "task r a 255 20000 19999 1000\nchart n r 50\ndatum n x -999999999\ndatum n y 999999999\nsignal k 64 n x 20000 turned\n"
            + "signal l 1 n y 500\nstate n s top plain\nedge n s s 99 if x mod 31\nedge n s s 0 if x eq y\nafter n s 20000\nprotect b 20000 16\n"
            + "read k e f 99\nwatch k b 255\ndatum n z -0\ndatum n q 000000007");
    }

    private static String many(int count, String line) {
        StringBuilder told = new StringBuilder();
        for (int i = 0; i < count; i++) {
            told.append(line.replace("%", Integer.toString(i, 36))).append('\n');
        }
        return told.toString();
    }

    private static void tooMuch() {
        fault(6, many(6, "controller q%") + "controller ^a");
        good(many(6, "controller q%"));
        fault(2, many(6, "controller q%") + "controller ^A");
        fault(3, many(6, "controller q%") + "controller ^q0");
        fault(6, many(6, "controller q%") + "controller ^a b");
        String tasks = "controller a\ncontroller b\n" + many(12, "task t% a 1 500 0 1");
        fault(6, tasks + "task ^n a 1 500 0 1");
        good(tasks + many(12, "chart c% t% 1"));
        fault(6, tasks + many(12, "chart c% t% 1") + "chart ^n t0 1");
        String signals = tasks + "chart c t0 1\ndatum c d 0\n" + many(40, "signal s% 8 c d 500");
        good(signals);
        fault(6, signals + "signal ^n 8 c d 500");
        String data = tasks + "chart c t0 1\n" + many(32, "datum c d% 0");
        good(data);
        fault(6, data + "^datum c n 0");
        fault(5, data + "datum c n ^x");
        fault(3, data + "datum c ^d0 0");
        String reads = "controller a\ncontroller b\ntask t a 1 500 0 1\ntask u b 1 500 0 1\nchart c t 1\nchart e u 1\ndatum c d 0\ndatum e d 0\n"
            + "signal s 8 c d 500\n";
        good(reads + many(60, "read s e d 1"));
        fault(6, reads + many(60, "read s e d 1") + "^read s e d 1");
        fault(2, reads + many(60, "read s e d 1") + "read s e d 1 ^1");
        fault(7, reads + many(60, "read s e d 1") + "^read s c d 1");
        good(reads + many(30, "watch s b 1"));
        fault(6, reads + many(30, "watch s b 1") + "^watch s b 1");
        fault(7, reads + many(30, "watch s b 1") + "^watch s a 1");
        String states = "controller a\ntask t a 1 500 0 1\nchart c t 1\n" + many(200, "state c s% top plain");
        good(states);
        fault(6, states + " ^state c n top plain");
        fault(3, states + "state c ^s0 top plain");
        fault(7, states.replace("state c s1 top plain", "state c s1 top fork") + "^state c n s1 plain");
        String edges = "controller a\ntask t a 1 500 0 1\nchart c t 1\nstate c a top plain\nstate c h top history\n" + many(400, "edge c a a 0");
        good(edges);
        fault(6, edges + "^edge c a a 0");
        fault(7, edges + "^edge c h a 0");
    }

    private static void noFit() {
        fault(7, BASE + "chart n ^t 1");
        fault(5, BASE + "chart n t ^51");
        fault(2, BASE + "chart n t 1 ^1");
        fault(7, BASE + "^read g c d 1");
        fault(7, BASE + "  ^watch g a 1");
        fault(7, BASE + "^state c q h plain");
        fault(7, BASE + "^state c q j plain");
        fault(7, BASE + "^edge c h s 1");
        fault(7, BASE + "^edge c w s 1");
        fault(2, BASE + "edge c w s 1 ^1");
        good(BASE + "edge c k s 1\nedge c j s 1\nedge c s h 1\nedge c s w 1\nedge c s k 1\nedge c s j 1");
        fault(7, BASE + "^after c h 1");
        fault(7, BASE + "^after c j 1");
        fault(7, BASE + "^enter c k d 1");
        fault(7, BASE + "^leave c w d 1 more");
        fault(7, BASE + "^take e f 1");
        String deep = "controller a\ntask t a 1 500 0 1\nchart c t 1\nstate c s0 top plain\n";
        for (int i = 1; i < 40; i++) {
            deep += "state c s" + i + " s" + (i - 1) + " plain\n";
        }
        good(deep);
        fault(7, deep + "^state c s40 s39 plain");
    }

    private static void tooLarge() {
        String two = "controller a\ncontroller b\ntask t a 1 500 0 1\ntask u b 1 500 0 1\nchart c t 1\nchart e u 1\ndatum c d 0\ndatum e d 0\n";
        fault(8, two + "signal x 24 c d 500\nsignal ^y 25 c d 500\nsignal z 64 c d 500\nprotect a 500 1");
        fault(8, two + "protect b 500 1\nprotect a 600 1\nsignal x 64 e d 500\nsignal y 64 c d 500\nsignal ^z 64 c d 600");
        good(two + "protect b 500 1\nprotect a 600 1\nsignal x 24 e d 500 turned\nsignal y 64 c d 500\nsignal z 17 c d 600");
    }

    private static void order() {
        fault(2, "controller ^A\nbogus");
        fault(4, BASE + "task r ^none 999 1 1 1 1");
        fault(3, BASE + "task ^a none 999 1 1 1 1");
        fault(5, BASE + "protect a 500 1\nprotect a 500 ^99");
        fault(2, BASE + "protect a 500 1\nprotect a 500 1 ^1");
        fault(4, BASE + "watch g ^none 999 999");
        fault(1, "task\n".substring(4) + "^x");
    }

    private static void fine() {
        good("controller a");
        good("controller a\n");
        good("\n\n  # words # and more\n  controller   a  #b\n#c");
        good("controller abcdefghij\ncontroller a234567890\ncontroller top\ncontroller time\ncontroller if\ncontroller more");
        CarHouse x = Checks.carOf("controller a # controller b");
        Checks.due("behind # there are no words", 1, () -> x.count(0));
    }

    private static void again() {
        CarHouse x = Checks.carOf("controller a", "controller b");
        x.run(5);
        x.silence(1, true);
        x.say((byte) 25);
        x.ask(0);
        x.say((byte) 20);
        x.flip(0, 10);
        Checks.due("a second car", 0, x::system);
        Checks.due("its time", 0, x::time);
        Checks.due("nothing is asked", -1, x::asking);
        Checks.due("what was said stays", 1, () -> x.ask(1));
        Checks.due("nobody is silent", 1, () -> x.silence(0, true));
        x.run(20);
        Checks.due("no flip of the first car", 0, () -> x.error(-1, 0));
        for (int i = 3; i <= 16; i++) {
            Checks.due("system() once more", 0, x::system);
        }
        Checks.tell(x, "\nbogus");
        x.run(7);
        Checks.thrown("system() for the 17th time", IllegalStateException.class, x::system);
        Checks.due("it changes nothing", 7, x::time);
        Checks.due("nor the place", 0, x::place);
        CarHouse y = Checks.carOf("controller a");
        Checks.tell(y, " b");
        Checks.due("a fault", CarHouse.WORDS, y::system);
        Checks.due("at b", 13, y::place);
        Checks.thrown("no car any more", IllegalStateException.class, () -> y.run(1));
        y.cut(12);
        Checks.due("a car again", 0, y::system);
        Checks.due("without a place", 0, y::place);
    }
}
