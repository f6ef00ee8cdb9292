/** Promises 4 and 5: system and place; the lines of a text, and each fault at its place, which ^ marks. */
public final class FaultTest {
    public static void main(String[] args) {
        Checks.promise(4);
        unknownWords();
        words();
        twice();
        nothing();
        numbers();
        tooMuch();
        noFit();
        tooLarge();
        order();
        fine();
        again();
        Checks.end("FaultTest");
    }

    private static void unknownWords() {
        Faults.fault(1, "^bogus");
        Faults.fault(1, "^Controller a");
        Faults.fault(1, "controller a\n  ^controllers b");
        Faults.fault(1, "controller a\n^\tcontroller b");
        Faults.fault(1, Faults.BASE + "state c q top ^odd");
        Faults.fault(1, Faults.BASE + "state c q top ^Plain");
        Faults.fault(1, Faults.BASE + "edge c s s 0 if d ^is 1");
        Faults.fault(1, Faults.BASE + "edge c s s 0 if d ^e 1");
    }

    private static void words() {
        Faults.fault(2, "controller^");
        Faults.fault(2, "controller  ^");
        Faults.fault(2, "controller # none^\ncontroller b");
        Faults.fault(2, "controller^\ncontroller b");
        Faults.fault(2, "controller ^A");
        Faults.fault(2, "controller ^a_");
        Faults.fault(2, "controller ^1a");
        Faults.fault(2, "controller ^a#b");
        Faults.fault(2, "controller ^abcdefghijk");
        Faults.fault(2, "controller a ^b");
        Faults.fault(2, "task ^7");
        Faults.fault(2, Faults.BASE + "state c ^top top plain");
        Faults.fault(2, Faults.BASE + "datum c ^top 0");
        Faults.fault(2, Faults.BASE + "state c q top^");
        Faults.fault(2, Faults.BASE + "task r a 1 500 0^\n");
        Faults.fault(2, Faults.BASE + "task r a 1 500 0 1 ^1");
        Faults.fault(2, Faults.BASE + "edge c s s^");
        Faults.fault(2, Faults.BASE + "edge c s s 0 ^when d eq 1");
        Faults.fault(2, Faults.BASE + "edge c s s 0 if^");
        Faults.fault(2, Faults.BASE + "edge c s s 0 if d^");
        Faults.fault(2, Faults.BASE + "edge c s s 0 if d eq^ ".trim());
        Faults.fault(2, Faults.BASE + "edge c s s 0 if d eq 1 ^more");
        Faults.fault(2, Faults.BASE + "enter c s d 1 ^less");
        Faults.fault(2, Faults.BASE + "leave c s d 1 more ^more");
        Faults.fault(2, Faults.BASE + "take c d^");
        Faults.fault(2, Faults.BASE + "signal k 8 c d 500 ^turn");
        Faults.fault(2, Faults.BASE + "signal k 8 c d 500 turned ^x");
        Faults.fault(2, Faults.BASE + "protect a 500^");
        Faults.fault(2, Faults.BASE + "read g e f 1 ^1");
        Faults.fault(2, Faults.BASE + "watch g b 1 ^1");
        Faults.fault(2, Faults.BASE + "after c s 1 ^1");
    }

    private static void twice() {
        Faults.fault(3, "controller a\ncontroller ^a");
        Faults.fault(3, Faults.BASE + "task ^a a 1 500 0 1");
        Faults.fault(3, Faults.BASE + "chart ^t v 1");
        Faults.fault(3, Faults.BASE + "signal ^c 8 c d 500");
        Faults.fault(3, Faults.BASE + "controller ^g");
        Faults.fault(3, Faults.BASE + "state c ^s top plain");
        Faults.fault(3, Faults.BASE + "datum c ^d 1");
        Faults.fault(3, Faults.BASE + "protect a 500 1\nprotect b 500 1\nprotect a 501 1\nprotect a ^500 2");
        Faults.good(Faults.BASE + "state c d top plain\ndatum c s 1\nstate e s top plain\ndatum e d 1\nstate c g s plain");
    }

    private static void nothing() {
        Faults.fault(4, "^");
        Faults.fault(4, "# controller a\n\n   ^");
        Faults.fault(4, "task t ^a 1 500 0 1");
        Faults.fault(4, Faults.BASE + "task r ^t 1 500 0 1");
        Faults.fault(4, Faults.BASE + "chart n ^a 1");
        Faults.fault(4, Faults.BASE + "chart n ^none 1");
        Faults.fault(4, Faults.BASE + "state ^t q top plain");
        Faults.fault(4, Faults.BASE + "state c q ^f plain");
        Faults.fault(4, Faults.BASE + "state c q ^q plain");
        Faults.fault(4, Faults.BASE + "state c q ^9! plain");
        Faults.fault(4, Faults.BASE + "edge c ^top s 0");
        Faults.fault(4, Faults.BASE + "edge c s ^d 0");
        Faults.fault(4, Faults.BASE + "edge c s s 0 if ^f eq 1");
        Faults.fault(4, Faults.BASE + "edge c s s 0 if d eq ^f");
        Faults.fault(4, Faults.BASE + "edge c s s 0 if d eq ^1234567890");
        Faults.fault(4, Faults.BASE + "edge c s s 0 if d eq ^-");
        Faults.fault(4, Faults.BASE + "after c ^top 1");
        Faults.fault(4, Faults.BASE + "enter c s ^s 1");
        Faults.fault(4, Faults.BASE + "take c ^f 1");
        Faults.fault(4, Faults.BASE + "signal k 8 ^t d 500");
        Faults.fault(4, Faults.BASE + "signal k 8 c ^f 500");
        Faults.fault(4, Faults.BASE + "protect ^c 500 1");
        Faults.fault(4, Faults.BASE + "read ^c e f 1");
        Faults.fault(4, Faults.BASE + "read g ^b f 1");
        Faults.fault(4, Faults.BASE + "read g e ^d 1");
        Faults.fault(4, Faults.BASE + "watch ^a b 1");
        Faults.fault(4, Faults.BASE + "watch g ^e 1");
    }

    private static void numbers() {
        Faults.fault(5, Faults.BASE + "task r a ^-1 500 0 1");
        Faults.fault(5, Faults.BASE + "task r a ^256 500 0 1");
        Faults.fault(5, Faults.BASE + "task r a 255 ^499 0 1");
        Faults.fault(5, Faults.BASE + "task r a 0 ^20001 0 1");
        Faults.fault(5, Faults.BASE + "task r a 0 700 ^700 1");
        Faults.fault(5, Faults.BASE + "task r a 0 700 ^-1 1");
        Faults.fault(5, Faults.BASE + "task r a 0 700 699 ^0");
        Faults.fault(5, Faults.BASE + "task r a 0 700 699 ^1001");
        Faults.fault(5, Faults.BASE + "task r a 0 700 699 ^1x");
        Faults.fault(5, Faults.BASE + "chart n v ^51");
        Faults.fault(5, Faults.BASE + "chart n v ^-1");
        Faults.fault(5, Faults.BASE + "edge c s s ^100");
        Faults.fault(5, Faults.BASE + "edge c s s ^-1");
        Faults.fault(5, Faults.BASE + "edge c s s ^times");
        Faults.fault(5, Faults.BASE + "edge c s s 0 if d eq ^32");
        Faults.fault(5, Faults.BASE + "edge c s s 0 if d eq ^-1");
        Faults.fault(5, Faults.BASE + "after c s ^0");
        Faults.fault(5, Faults.BASE + "after c s ^20001");
        Faults.fault(5, Faults.BASE + "datum c n ^1000000000");
        Faults.fault(5, Faults.BASE + "datum c n ^--1");
        Faults.fault(5, Faults.BASE + "datum c n ^+1");
        Faults.fault(5, Faults.BASE + "enter c s d ^-1000000000");
        Faults.fault(5, Faults.BASE + "take c d ^more");
        Faults.fault(5, Faults.BASE + "signal k ^0 c d 500");
        Faults.fault(5, Faults.BASE + "signal k ^65 c d 500");
        Faults.fault(5, Faults.BASE + "signal k 8 c d ^499");
        Faults.fault(5, Faults.BASE + "signal k 8 c d ^20001");
        Faults.fault(5, Faults.BASE + "protect a ^499 1");
        Faults.fault(5, Faults.BASE + "protect a 500 ^0");
        Faults.fault(5, Faults.BASE + "protect a 500 ^17");
        Faults.fault(5, Faults.BASE + "read g e f ^100");
        Faults.fault(5, Faults.BASE + "watch g b ^0");
        Faults.fault(5, Faults.BASE + "watch g b ^256");
        Faults.good(Faults.BASE + "task r a 255 20000 19999 1000\nchart n r 50\ndatum n x -999999999\ndatum n y 999999999\nsignal k 64 n x 20000 turned\n"
            + "signal l 1 n y 500\nstate n s top plain\nedge n s s 99 if x mod 31\nedge n s s 0 if x eq y\nafter n s 20000\nprotect b 20000 16\n"
            + "read k e f 99\nwatch k b 255\ndatum n z -0\ndatum n q 000000007");
    }

    private static void tooMuch() {
        Faults.fault(6, Faults.many(6, "controller q%") + "controller ^a");
        Faults.good(Faults.many(6, "controller q%"));
        Faults.fault(2, Faults.many(6, "controller q%") + "controller ^A");
        Faults.fault(3, Faults.many(6, "controller q%") + "controller ^q0");
        Faults.fault(6, Faults.many(6, "controller q%") + "controller ^a b");
        String tasks = "controller a\ncontroller b\n" + Faults.many(12, "task t% a 1 500 0 1");
        Faults.fault(6, tasks + "task ^n a 1 500 0 1");
        Faults.good(tasks + Faults.many(12, "chart c% t% 1"));
        Faults.fault(6, tasks + Faults.many(12, "chart c% t% 1") + "chart ^n t0 1");
        String signals = tasks + "chart c t0 1\ndatum c d 0\n" + Faults.many(40, "signal s% 8 c d 500");
        Faults.good(signals);
        Faults.fault(6, signals + "signal ^n 8 c d 500");
        String data = tasks + "chart c t0 1\n" + Faults.many(32, "datum c d% 0");
        Faults.good(data);
        Faults.fault(6, data + "^datum c n 0");
        Faults.fault(5, data + "datum c n ^x");
        Faults.fault(3, data + "datum c ^d0 0");
        String reads = "controller a\ncontroller b\ntask t a 1 500 0 1\ntask u b 1 500 0 1\nchart c t 1\nchart e u 1\ndatum c d 0\ndatum e d 0\n"
            + "signal s 8 c d 500\n";
        Faults.good(reads + Faults.many(60, "read s e d 1"));
        Faults.fault(6, reads + Faults.many(60, "read s e d 1") + "^read s e d 1");
        Faults.fault(2, reads + Faults.many(60, "read s e d 1") + "read s e d 1 ^1");
        Faults.fault(7, reads + Faults.many(60, "read s e d 1") + "^read s c d 1");
        Faults.good(reads + Faults.many(30, "watch s b 1"));
        Faults.fault(6, reads + Faults.many(30, "watch s b 1") + "^watch s b 1");
        Faults.fault(7, reads + Faults.many(30, "watch s b 1") + "^watch s a 1");
        String states = "controller a\ntask t a 1 500 0 1\nchart c t 1\n" + Faults.many(200, "state c s% top plain");
        Faults.good(states);
        Faults.fault(6, states + " ^state c n top plain");
        Faults.fault(3, states + "state c ^s0 top plain");
        Faults.fault(7, states.replace("state c s1 top plain", "state c s1 top fork") + "^state c n s1 plain");
        String edges = "controller a\ntask t a 1 500 0 1\nchart c t 1\nstate c a top plain\nstate c h top history\n" + Faults.many(400, "edge c a a 0");
        Faults.good(edges);
        Faults.fault(6, edges + "^edge c a a 0");
        Faults.fault(7, edges + "^edge c h a 0");
    }

    private static void noFit() {
        Faults.fault(7, Faults.BASE + "chart n ^t 1");
        Faults.fault(5, Faults.BASE + "chart n t ^51");
        Faults.fault(2, Faults.BASE + "chart n t 1 ^1");
        Faults.fault(7, Faults.BASE + "^read g c d 1");
        Faults.fault(7, Faults.BASE + "  ^watch g a 1");
        Faults.fault(7, Faults.BASE + "^state c q h plain");
        Faults.fault(7, Faults.BASE + "^state c q j plain");
        Faults.fault(7, Faults.BASE + "^edge c h s 1");
        Faults.fault(7, Faults.BASE + "^edge c w s 1");
        Faults.fault(2, Faults.BASE + "edge c w s 1 ^1");
        Faults.good(Faults.BASE + "edge c k s 1\nedge c j s 1\nedge c s h 1\nedge c s w 1\nedge c s k 1\nedge c s j 1");
        Faults.fault(7, Faults.BASE + "^after c h 1");
        Faults.fault(7, Faults.BASE + "^after c j 1");
        Faults.fault(7, Faults.BASE + "^enter c k d 1");
        Faults.fault(7, Faults.BASE + "^leave c w d 1 more");
        Faults.fault(7, Faults.BASE + "^take e f 1");
        String deep = "controller a\ntask t a 1 500 0 1\nchart c t 1\nstate c s0 top plain\n";
        for (int i = 1; i < 40; i++) {
            deep += "state c s" + i + " s" + (i - 1) + " plain\n";
        }
        Faults.good(deep);
        Faults.fault(7, deep + "^state c s40 s39 plain");
    }

    private static void tooLarge() {
        String two = "controller a\ncontroller b\ntask t a 1 500 0 1\ntask u b 1 500 0 1\nchart c t 1\nchart e u 1\ndatum c d 0\ndatum e d 0\n";
        Faults.fault(8, two + "signal x 24 c d 500\nsignal ^y 25 c d 500\nsignal z 64 c d 500\nprotect a 500 1");
        Faults.fault(8, two + "protect b 500 1\nprotect a 600 1\nsignal x 64 e d 500\nsignal y 64 c d 500\nsignal ^z 64 c d 600");
        Faults.good(two + "protect b 500 1\nprotect a 600 1\nsignal x 24 e d 500 turned\nsignal y 64 c d 500\nsignal z 17 c d 600");
    }

    private static void order() {
        Faults.fault(2, "controller ^A\nbogus");
        Faults.fault(4, Faults.BASE + "task r ^none 999 1 1 1 1");
        Faults.fault(3, Faults.BASE + "task ^a none 999 1 1 1 1");
        Faults.fault(5, Faults.BASE + "protect a 500 1\nprotect a 500 ^99");
        Faults.fault(2, Faults.BASE + "protect a 500 1\nprotect a 500 1 ^1");
        Faults.fault(4, Faults.BASE + "watch g ^none 999 999");
        Faults.fault(1, "task\n".substring(4) + "^x");
    }

    private static void fine() {
        Faults.good("controller a");
        Faults.good("controller a\n");
        Faults.good("\n\n  # words # and more\n  controller   a  #b\n#c");
        Faults.good("controller abcdefghij\ncontroller a234567890\ncontroller top\ncontroller time\ncontroller if\ncontroller more");
        CarHouse x = Checks.carOf("controller a # controller b");
        Checks.due("behind # there are no words", 1, () -> x.count(0));
    }

    private static void again() {
        CarHouse x = Checks.carOf("controller a", "controller b");
        x.run(5);
        x.silence(1, true);
        x.say((byte) 25);
        x.ask(0);
        x.say((byte) 20);
        x.flip(0, 10);
        Checks.due("a second car", 0, x::system);
        Checks.due("its time", 0, x::time);
        Checks.due("nothing is asked", -1, x::asking);
        Checks.due("what was said stays", 1, () -> x.ask(1));
        Checks.due("nobody is silent", 1, () -> x.silence(0, true));
        x.run(20);
        Checks.due("no flip of the first car", 0, () -> x.error(-1, 0));
        for (int i = 3; i <= 16; i++) {
            Checks.due("system() once more", 0, x::system);
        }
        Checks.tell(x, "\nbogus");
        x.run(7);
        Checks.thrown("system() for the 17th time", IllegalStateException.class, x::system);
        Checks.due("it changes nothing", 7, x::time);
        Checks.due("nor the place", 0, x::place);
        CarHouse y = Checks.carOf("controller a");
        Checks.tell(y, " b");
        Checks.due("a fault", CarHouse.WORDS, y::system);
        Checks.due("at b", 13, y::place);
        Checks.thrown("no car any more", IllegalStateException.class, () -> y.run(1));
        y.cut(12);
        Checks.due("a car again", 0, y::system);
        Checks.due("without a place", 0, y::place);
    }
}
