import java.util.List;
import java.util.function.ToLongFunction;

/**
 * Promise 4, system, to its edges: each number of a text at its bounds and one past them, each count at its most and one more,
 * each word missing, wrong, or too many; the order of faults; and what is left of the car before.
 */
public final class Promise04Test {
    private static final String BASE = Faults.BASE;
    /** A line of each sort; in the second row the words behind the first one that must have been told before. */
    private static final String[][] LINES = {
        {"controller n", ""}, {"task n a 1 500 0 1", "2"}, {"chart n v 1", "2"}, {"state c n top plain", "1 3"}, {"edge c s s 1", "1 2 3"},
        {"edge c s s 1 if d eq d", "1 2 3 6"}, {"after c s 1", "1 2"}, {"datum c n 1", "1"}, {"enter c s d 1", "1 2 3"}, {"leave c s d 1", "1 2 3"},
        {"take c d 1", "1 2"}, {"signal n 8 c d 500", "3 4"}, {"protect a 500 1", "1"}, {"read g e f 1", "1 2 3"}, {"watch g b 1", "1 2"}};

    public static void main(String[] args) {
        Checks.promise(4);
        numbers();
        names();
        linesAndWords();
        missing();
        tooMany();
        told();
        oneOfSome();
        twice();
        counts();
        depth();
        noFit();
        lastOfALine();
        wholeText();
        sixteenTimes();
        insteadOfTheOneBefore();
        whateverWasBefore();
        openRights();
        countersOfFrames();
        unfinishedMessages();
        octetsStay();
        noCarBehindAFault();
        Checks.end("Promise04Test");
    }

    private static void bounds(String line, long least, long most) {
        Faults.good(BASE + line.replace("%", Long.toString(least)));
        Faults.good(BASE + line.replace("%", Long.toString(most)));
        Faults.good(BASE + line.replace("%", String.format("%09d", Math.abs(most))).replace("-", ""));
        String at = BASE + line.replace("%", "^%");
        Faults.fault(5, at.replace("%", Long.toString(least - 1)));
        Faults.fault(5, at.replace("%", Long.toString(most + 1)));
        for (String none : new String[] {"x", "-", "--1", "+1", "1x", "x1", "1-", "1.0", "0x1", String.format("%010d", most), "-" + String.format("%010d", most),
            "time1", "/", ":", "1:", "\t1"}) {
            Faults.fault(5, at.replace("%", none));
        }
    }

    private static void numbers() {
        bounds("task r a % 500 0 1", 0, 255);
        bounds("task r a 1 % 0 1", 500, 20000);
        bounds("task r a 1 500 % 1", 0, 499);
        bounds("task r a 1 20000 % 1", 0, 19999);
        bounds("task r a 1 500 0 %", 1, 1000);
        bounds("chart n v %", 0, 50);
        bounds("edge c s s %", 0, 99);
        bounds("after c s %", 1, 20000);
        bounds("signal n % c d 500", 1, 64);
        bounds("signal n 8 c d %", 500, 20000);
        bounds("protect a % 1", 500, 20000);
        bounds("protect b 500 %", 1, 16);
        bounds("read g e f %", 0, 99);
        bounds("watch g b %", 1, 255);
        for (String line : new String[] {"datum c n %", "enter c s d %", "leave c s d %", "take c d %", "enter c s d % more", "leave c s d % more",
            "take c d % more"}) {
            bounds(line, -999999999, 999999999);
            Faults.good(BASE + line.replace("%", "-0"));
        }
        // A sign before nine digits is fine, and 0 with a sign is 0.
        Faults.good(BASE + "task r a -0 500 -000000000 1\nchart n r -0\nedge c s s -0\nread g e f -0\ndatum n x -000000001");
        Faults.fault(5, BASE + "task r a ^-000000001 500 0 1");
        Faults.fault(5, BASE + "task r a ^-0000000000 500 0 1");
        // The second operand may be a datum, so what is no number is a word that means nothing.
        Faults.good(BASE + "edge c s s 1 if d eq 0");
        Faults.good(BASE + "edge c s s 1 if d eq 31");
        Faults.good(BASE + "edge c s s 1 if d eq 000000031");
        Faults.good(BASE + "edge c s s 1 if d eq -0");
        Faults.fault(5, BASE + "edge c s s 1 if d eq ^-1");
        Faults.fault(5, BASE + "edge c s s 1 if d eq ^32");
        Faults.fault(5, BASE + "edge c s s 1 if d eq ^999999999");
        Faults.fault(4, BASE + "edge c s s 1 if d eq ^0000000031");
        Faults.fault(4, BASE + "edge c s s 1 if d eq ^-");
        Faults.fault(4, BASE + "edge c s s 1 if d eq ^1x");
    }

    private static void names() {
        String[] lines = {"controller %", "task % a 1 500 0 1", "chart % v 1", "state c % top plain", "datum c % 1", "signal % 8 c d 500"};
        for (String line : lines) {
            for (String name : new String[] {"q", "z", "qa", "q0", "q9", "qz", "abcdefghij", "z123456789", "if", "time", "plain", "more", "state"}) {
                Faults.good(BASE + line.replace("%", name));
            }
            for (String none : new String[] {"abcdefghijk", "z1234567890", "0", "9", "0a", "9z", "A", "Z", "aA", "aZ", "a_", "a-", "-a", "a#", "`", "{", "a`", "a{",
                "a/", "a:", "\u00e4", "a\u00ff", "\t", "a\t", "\ra"}) {
                Faults.fault(2, BASE + line.replace("%", "^" + none));
            }
        }
        for (String line : new String[] {lines[0], lines[1], lines[2], lines[5]}) {
            Faults.good(BASE + line.replace("%", "top"));
        }
        Faults.fault(2, BASE + "state c ^top top plain");
        Faults.fault(2, BASE + "datum c ^top 1");
        Faults.good(BASE + "state c top1 top plain\ndatum c to 1");
    }

    private static void linesAndWords() {
        Faults.good("controller a");
        Faults.good("controller a\n");
        Faults.good("\n\n\ncontroller a\n\n\n");
        Faults.good("   controller     a   ");
        Faults.good("controller a#b\n".replace("#b", " #b") + "controller b # c d\n#\n# \n   # controller a");
        Faults.good("#controller a\ncontroller a #");
        Faults.fault(2, "controller ^a#");
        Faults.fault(1, "^controller#a");
        Faults.fault(1, "^a#controller b");
        Faults.fault(2, "controller a ^b#");
        for (char c : new char[] {1, 9, 11, 13, 31, 33, 127, 128, 160, 255}) {
            Faults.fault(1, "controller b\n^" + c + "controller a");
            Faults.fault(1, "^controller" + c + "a");
            Faults.fault(2, "controller ^a" + c);
            Faults.fault(1, "controller a\n^" + c);
        }
        Faults.fault(1, "controller a\ncontroller b\n ^controlle c");
        Faults.fault(1, "controller a\n^controllera");
        Faults.fault(1, "^CONTROLLER a");
        CarHouse x = Checks.carOf("controller a # controller b", "controller c");
        Checks.due("of a # and all behind it nothing is a word, up to the line's end", 2, () -> x.count(0));
    }

    private static void missing() {
        for (String[] line : LINES) {
            String[] words = line[0].split(" ");
            String told = "";
            for (int k = 1; k < words.length; k++) {
                told += (k == 1 ? "" : " ") + words[k - 1];
                if (k == 5 && words.length > 5 && words[5].equals("if")) {
                    Faults.good(BASE + told);
                    continue;
                }
                Faults.fault(2, BASE + told + "^");
                Faults.fault(2, BASE + told + "^\n");
                Faults.fault(2, BASE + told + "   ^\ncontroller ?");
                Faults.fault(2, BASE + "  " + told + " # 1 1 1^\n1 1 1");
                Faults.fault(2, BASE + told + " #^");
            }
        }
    }

    private static void tooMany() {
        for (String[] line : LINES) {
            Faults.good(BASE + line[0]);
            Faults.good(BASE + line[0] + " # x");
            Faults.fault(2, BASE + line[0] + " ^x");
            Faults.fault(2, BASE + line[0] + "   ^1 ");
            Faults.fault(2, BASE + line[0] + " ^?#");
            Faults.fault(2, BASE + line[0] + " ^mor");
            Faults.fault(2, BASE + line[0] + " ^turnedx");
            Faults.fault(2, BASE + line[0] + " ^More");
        }
        for (String act : new String[] {"enter c s d 1", "leave c s d 1", "take c d 1"}) {
            Faults.good(BASE + act + " more");
            Faults.fault(2, BASE + act + " more ^more");
            Faults.fault(2, BASE + act + " ^turned");
            Faults.fault(2, BASE + act + " ^if");
        }
        Faults.good(BASE + "signal n 8 c d 500 turned");
        Faults.fault(2, BASE + "signal n 8 c d 500 turned ^turned");
        Faults.fault(2, BASE + "signal n 8 c d 500 ^more");
        Faults.fault(2, BASE + "edge c s s 1 ^more");
        Faults.fault(2, BASE + "edge c s s 1 ^iff d eq 1");
        Faults.fault(2, BASE + "edge c s s 1 ^d eq 1");
        Faults.fault(2, BASE + "edge c s s 1 ^1");
    }

    /** Each place where something that was told before must stand: with nothing, with something else, with what is no name. */
    private static void told() {
        String text = BASE + "state e q top plain\n";
        for (String[] line : LINES) {
            String[] words = line[0].split(" ");
            for (String place : line[1].isEmpty() ? new String[0] : line[1].split(" ")) {
                int at = Integer.parseInt(place);
                String sort = words[at];
                for (String other : new String[] {"zz", "0", "9!", "-", "abcdefghijkl", "a", "t", "c", "g", "s", "d", "q", "f", "j", "top", "n", "Top"}) {
                    boolean state = words[1].equals("c") && (at == 2 || at == 3) && "s top".contains(sort);
                    boolean fits = other.equals(sort) || "a b".contains(sort) && other.equals("a") || sort.equals("v") && other.equals("t")
                        || "c e".contains(sort) && other.equals("c") || state && "s j".contains(other) || sort.equals("f") && other.equals("f")
                        || sort.equals("d") && other.equals("d");
                    if (!fits) {
                        String[] changed = words.clone();
                        changed[at] = "^" + other;
                        Faults.fault(4, text + String.join(" ", changed));
                    }
                }
            }
        }
        for (String other : new String[] {"zz", "f", "s", "top", "q", "c", "?"}) {
            Faults.fault(4, text + "edge c s s 1 if d eq ^" + other);
        }
        Faults.good(text + "edge c s s 1 if d eq d");
        // A name must have been told before, in an earlier line.
        Faults.fault(4, "task t ^a 1 500 0 1\ncontroller a");
        Faults.fault(4, BASE + "state c n ^n plain");
        Faults.fault(4, BASE + "task n ^n 1 500 0 1");
    }

    private static void oneOfSome() {
        for (String kind : new String[] {"plain", "split", "history", "deep", "fork", "join"}) {
            Faults.good(BASE + "state c n top " + kind);
            Faults.fault(1, BASE + "state c n top ^" + kind + "s");
            Faults.fault(1, BASE + "state c n top ^" + kind.substring(1));
            Faults.fault(1, BASE + "state c n top ^" + kind.substring(0, kind.length() - 1));
        }
        for (String op : new String[] {"eq", "ne", "lt", "ge", "div", "mod"}) {
            Faults.good(BASE + "edge c s s 1 if d " + op + " 1");
            Faults.fault(1, BASE + "edge c s s 1 if d ^" + op + "s 1");
            Faults.fault(1, BASE + "edge c s s 1 if d ^" + op.substring(1) + " 1");
            Faults.fault(1, BASE + "edge c s s 1 if d ^" + op.toUpperCase() + " 1");
        }
        for (String none : new String[] {"gt", "le", "=", "1", "top", "if"}) {
            Faults.fault(1, BASE + "edge c s s 1 if d ^" + none + " 1");
            Faults.fault(1, BASE + "state c n top ^" + none);
        }
        for (String none : new String[] {"a", "top", "plain", "more", "1", "#".replace("#", "?"), "controllers", "contro", "tas", "edges"}) {
            Faults.fault(1, BASE + "^" + none);
        }
        Faults.good(BASE + "edge c s s time");
        Faults.fault(5, BASE + "edge c s s ^tim");
        Faults.fault(5, BASE + "edge c s s ^timer");
    }

    private static void twice() {
        String[] ofAll = {"controller %", "task % a 1 500 0 1", "chart % v 1", "signal % 8 c d 500"};
        for (String line : ofAll) {
            for (String name : new String[] {"a", "b", "t", "v", "c", "e", "g"}) {
                Faults.fault(3, BASE + line.replace("%", "^" + name));
            }
            // States and data have names of their own.
            for (String name : new String[] {"d", "s", "f", "h"}) {
                Faults.good(BASE + line.replace("%", name));
            }
        }
        Faults.fault(3, BASE + "state c ^s top plain");
        Faults.fault(3, BASE + "state c ^j top plain");
        Faults.fault(3, BASE + "datum c ^d 1");
        Faults.good(BASE + "state e s top plain\nstate c d top plain\nstate c c top plain\nstate c a top plain\nstate c f top plain");
        Faults.good(BASE + "datum e d 1\ndatum c s 1\ndatum c c 1\ndatum c a 1\ndatum c f 1");
        Faults.good(BASE + "state e d top plain\ndatum c q 1\nstate e q top plain\nstate c f top plain\nstate c r top plain\ndatum e r 1");
        // So they have in each of twelve charts.
        Faults.good("controller a\n" + Faults.many(12, "task t% a 9 20000 0 1") + Faults.many(12, "chart c% t% 1") + Faults.many(12, "datum c% n 0")
            + Faults.many(12, "state c% n top plain") + Faults.many(12, "edge c% n n 1 if n eq n"));
        Faults.fault(3, BASE + "protect a 500 1\nprotect a ^500 1");
        Faults.fault(3, BASE + "protect a 000000500 1\nprotect a ^500 16");
        Faults.good(BASE + "protect a 500 1\nprotect b 500 1\nprotect a 501 1\nprotect a 20000 1");
    }

    /** As many as there may be, and one more. */
    private static void counts() {
        String six = Faults.many(6, "controller q%");
        Faults.good(six);
        Faults.fault(6, six + "controller ^n");
        Faults.fault(6, six + "controller ^n n");
        Faults.fault(2, six + "controller ^N");
        Faults.fault(2, six + "controller^");
        Faults.fault(3, six + "controller ^q5");
        String twelve = "controller a\n" + Faults.many(12, "task t% a 1 500 0 1");
        Faults.good(twelve);
        Faults.fault(6, twelve + "task ^n a 1 500 0 1");
        Faults.fault(6, twelve + "task ^n zz 999 1");
        Faults.fault(2, twelve + "task ^7 a 1 500 0 1");
        Faults.fault(3, twelve + "task ^tb a 1 500 0 1");
        String charts = twelve + Faults.many(12, "chart c% t% 1");
        Faults.good(charts);
        Faults.fault(6, charts + "chart ^n t0 1");
        Faults.fault(3, charts + "chart ^cb t0 1");
        String signals = twelve + "chart c t0 1\ndatum c d 0\n" + Faults.many(40, "signal s% 8 c d 500");
        Faults.good(signals);
        Faults.fault(6, signals + "signal ^n 8 c d 500");
        Faults.fault(6, signals + "signal ^n 99 c d 500");
        Faults.fault(3, signals + "signal ^s0 8 c d 500");
        String data = twelve + "chart c t0 1\nchart e t1 1\n" + Faults.many(32, "datum c d% 0");
        Faults.good(data + Faults.many(32, "datum e d% 0"));
        Faults.fault(6, data + "datum e d 0\n^datum c n 0");
        String reads = BASE + Faults.many(60, "read g e f 1");
        Faults.good(reads);
        Faults.fault(6, reads + "^read g e f 1");
        String watches = BASE + Faults.many(30, "watch g b 1");
        Faults.good(watches);
        Faults.fault(6, watches + "  ^watch g b 1");
        String states = "controller a\ntask t a 1 500 0 1\ntask u a 1 500 0 1\nchart c t 1\nchart e u 1\n" + Faults.many(200, "state c s% top plain");
        Faults.good(states + "state e n top plain");
        Faults.fault(6, states + "^state c n top plain");
        String edges = "controller a\ntask t a 1 500 0 1\ntask u a 1 500 0 1\nchart c t 1\nchart e u 1\nstate c s top plain\nstate e s top plain\n"
            + Faults.many(400, "edge c s s 0");
        Faults.good(edges + "edge e s s 0");
        Faults.fault(6, edges + "^edge c s s 0");
        // 600 acts do not go into 6000 characters, nor do more than 500 activations into 12 tasks: as many as can be are fine.
        Faults.good("controller a\ntask t a 1 500 0 1\nchart c t 1\nstate c s top plain\nedge c s s 0\ndatum c d 0\n" + Faults.many(535, "take c d 1"));
        // Protected periods have no most.
        StringBuilder keys = new StringBuilder("controller a\n");
        for (int i = 0; i < 374; i++) {
            keys.append("protect a ").append(500 + i).append(" 1\n");
        }
        Faults.good(keys.toString());
        Faults.fault(3, keys.toString().trim().replace("protect a 873 1", "protect a ^500 1"));
    }

    private static void depth() {
        StringBuilder deep = new StringBuilder("controller a\ntask t a 1 500 0 1\nchart c t 1\nstate c s1 top plain\n");
        for (int i = 2; i <= 40; i++) {
            deep.append("state c s").append(i).append(" s").append(i - 1).append(i % 2 == 0 ? " split\n" : " plain\n");
        }
        Faults.good(deep + "state c n s39 plain\nstate c m s39 fork");
        Faults.fault(7, deep + "^state c n s40 plain");
        Faults.fault(7, deep + "^state c n s40 history");
    }

    private static void noFit() {
        Faults.fault(7, BASE + "chart n ^t 1");
        Faults.fault(7, BASE + "chart n v 1\nchart m ^v 1");
        Faults.fault(7, BASE + " ^read g c d 1");
        Faults.fault(7, BASE + "chart n v 1\ndatum n f 0\n^read g n f 1");
        Faults.fault(7, BASE + "^watch g a 1");
        for (String mark : new String[] {"h", "w", "k", "j"}) {
            Faults.fault(7, BASE + "^state c n " + mark + " plain");
            Faults.fault(7, BASE + "^after c " + mark + " 1");
            Faults.fault(7, BASE + "^enter c " + mark + " d 1");
            Faults.fault(7, BASE + "^leave c " + mark + " d 1 more");
            Faults.good(BASE + "edge c s " + mark + " 1");
        }
        Faults.fault(7, BASE + "^edge c h s 1");
        Faults.fault(7, BASE + "^edge c w s 1");
        Faults.fault(7, BASE + "^edge c h h time");
        Faults.good(BASE + "edge c k s 1\nedge c j s 1\ntake c d 1");
        Faults.fault(7, BASE + "^take e f 1");
        Faults.good(BASE + "state e s top plain\nedge e s s 1\ntake e f 1");
    }

    /** 3 at the period, 7, and 6 at the first word come behind all others of their line; of 7 and 6 there 7 is told. */
    private static void lastOfALine() {
        String key = BASE + "protect a 500 1\n";
        Faults.fault(5, key + "protect a 500 ^17");
        Faults.fault(2, key + "protect a 500^");
        Faults.fault(2, key + "protect a 500 1 ^1");
        Faults.fault(5, BASE + "chart n t ^51");
        Faults.fault(2, BASE + "chart n t^");
        Faults.fault(2, BASE + "chart n t 1 ^1");
        Faults.fault(4, BASE + "read g c ^f 1");
        Faults.fault(5, BASE + "read g c d ^100");
        Faults.fault(2, BASE + "read g c d 1 ^1");
        Faults.fault(5, BASE + "watch g a ^0");
        Faults.fault(2, BASE + "watch g a 1 ^1");
        Faults.fault(1, BASE + "state c n h ^odd");
        Faults.fault(2, BASE + "state c n h plain ^1");
        Faults.fault(3, BASE + "state c ^s h plain");
        Faults.fault(5, BASE + "edge c h s ^100");
        Faults.fault(2, BASE + "edge c h s 1 ^1");
        Faults.fault(1, BASE + "edge c h s 1 if d ^is 1");
        Faults.fault(5, BASE + "after c h ^0");
        Faults.fault(2, BASE + "after c h 1 ^1");
        Faults.fault(4, BASE + "enter c h ^f 1");
        Faults.fault(5, BASE + "leave c h d ^x");
        Faults.fault(2, BASE + "enter c h d 1 ^less");
        Faults.fault(4, BASE + "take e ^d 1");
        Faults.fault(2, BASE + "take e f 1 more ^more");
        String data = BASE + Faults.many(31, "datum c d% 0");
        Faults.fault(5, data + "datum c n ^x");
        Faults.fault(2, data + "datum c n 0 ^0");
        Faults.fault(3, data + "datum c ^du 0");
        Faults.fault(2, data + "datum c ^top 0");
        Faults.fault(6, data + "^datum c n 0");
        String reads = BASE + Faults.many(60, "read g e f 1");
        Faults.fault(4, reads + "read g e ^d 1");
        Faults.fault(5, reads + "read g e f ^100");
        Faults.fault(2, reads + "read g e f 1 ^1");
        Faults.fault(7, reads + "^read g c d 1");
        String watches = BASE + Faults.many(30, "watch g b 1");
        Faults.fault(5, watches + "watch g b ^256");
        Faults.fault(2, watches + "watch g b 1 ^1");
        Faults.fault(7, watches + "^watch g a 1");
        String states = "controller a\ntask t a 1 500 0 1\nchart c t 1\nstate c m top join\n" + Faults.many(199, "state c s% top plain");
        Faults.fault(1, states + "state c n top ^odd");
        Faults.fault(2, states + "state c n top plain ^1");
        Faults.fault(3, states + "state c ^s0 top plain");
        Faults.fault(4, states + "state c n ^zz plain");
        Faults.fault(7, states + "^state c n m plain");
        Faults.fault(6, states + "^state c n s0 plain");
        String edges = "controller a\ntask t a 1 500 0 1\nchart c t 1\nstate c s top plain\nstate c h top deep\n" + Faults.many(400, "edge c s s 0");
        Faults.fault(5, edges + "edge c s s ^x");
        Faults.fault(2, edges + "edge c s s 0 ^0");
        Faults.fault(7, edges + "^edge c h s 0");
        Faults.fault(6, edges + "^edge c s h 0");
    }

    /** Behind the last line: no controller, then signals that are larger than their frames. */
    private static void wholeText() {
        Faults.fault(4, "^");
        Faults.fault(4, "\n^");
        Faults.fault(4, "  # controller a^");
        Faults.fault(4, "\n\n   \n# x\n ^");
        Faults.fault(1, "# x\n^x");
        String two = "controller a\ncontroller b\ntask t a 1 500 0 1\ntask u b 1 500 0 1\nchart c t 1\nchart e u 1\ndatum c d 0\ndatum e d 0\n";
        Faults.good(two + "signal x 24 c d 500\nsignal y 24 c d 500 turned\nsignal z 1 c d 500\nprotect a 500 1");
        Faults.fault(8, two + "protect a 500 1\nsignal ^x 25 c d 500");
        Faults.fault(8, two + "signal ^x 25 c d 500 turned\nprotect a 500 1");
        Faults.fault(8, two + "signal ^x 64 c d 500\nsignal y 64 c d 500\nprotect a 500 1");
        Faults.good(two + "signal x 64 c d 501\nsignal y 64 c d 499\nprotect a 500 1\nprotect b 501 1".replace("499", "502"));
        // Controllers in their order, not lines.
        Faults.fault(8, two + "signal x 25 e d 500\nsignal ^y 25 c d 600\nprotect b 500 1\nprotect a 600 1");
        Faults.fault(8, two + "signal v 25 e d 600\nsignal ^w 25 e d 500\nprotect b 500 1\nprotect a 600 1");
        Faults.fault(1, two + "signal x 25 c d 500\nprotect a 500 1\n^x");
    }

    private static void sixteenTimes() {
        CarHouse x = new CarHouse();
        for (int i = 1; i <= 8; i++) {
            Checks.due("call " + i + " is a fault", 4, x::system);
        }
        Checks.tell(x, "controller a");
        for (int i = 9; i <= 16; i++) {
            Checks.due("call " + i + " is a car", 0, x::system);
        }
        for (int i = 17; i <= 19; i++) {
            Checks.thrown("call " + i, IllegalStateException.class, x::system);
        }
        Checks.due("the car is there yet", 1, () -> x.count(0));
        Checks.refused("the 17th call with a car", IllegalStateException.class, () -> {
            CarHouse y = Checks.carOf("controller a", "controller b", "task t a 1 500 0 1", "chart c t 1", "datum c d 7", "signal s 8 c d 500");
            for (int i = 2; i <= 16; i++) {
                y.system();
            }
            y.silence(1, true);
            Checks.say(y, 1, 2, 3, 4, 5, 6, 7, 8);
            y.ask(1);
            Checks.say(y, 9);
            y.run(560);
            Checks.tell(y, "\ncontroller c");
            return y;
        }, CarHouse::system);
        Checks.refused("the 17th call behind a fault", IllegalStateException.class, () -> {
            CarHouse y = new CarHouse();
            Checks.tell(y, "controller a b");
            for (int i = 1; i <= 16; i++) {
                y.system();
            }
            y.cut(12);
            return y;
        }, CarHouse::system);
    }

    private static final String[] RICH = {"controller a", "controller b", "task t a 1 500 0 1", "task u b 1 700 3 20", "chart c t 5", "chart e u 5",
        "datum c d 7", "datum e f 1", "state c s top plain", "edge c s s time", "take c d 1 more", "after c s 500", "state e s top plain",
        "edge e s s 4", "signal g 8 c d 500", "signal h 8 c d 600", "protect a 600 3", "read g e f 4", "watch g b 9", "watch h b 10"};

    /** Whatever became of the first car, the second one has the story of the only one. */
    private static void insteadOfTheOneBefore() {
        CarHouse x = Checks.carOf(RICH);
        x.silence(0, true);
        x.flip(0, 1600);
        x.flip(1, 19999);
        Checks.asked(x, 0, 700, 16, 2);
        Checks.asked(x, 0, 700, 39, 1);
        Checks.asked(x, 0, 700, 39, 2, 0, 0, 0, 0);
        x.cycle(true);
        x.run(6000);
        x.silence(0, false);
        x.run(1234);
        x.silence(1, true);
        Checks.say(x, 1, 2, 3, 4, 5, 6, 7, 8);
        x.ask(1);
        x.run(200);
        Checks.due("another car", 0, x::system);
        CarHouse twin = Checks.carOf(RICH);
        Checks.due("time 0", 0, x::time);
        Checks.due("nothing is asked", -1, x::asking);
        Checks.due("there is no answer", 0, x::answers);
        Checks.due("nobody is silent", 1, () -> x.silence(1, true));
        twin.silence(1, true);
        Checks.same("it looks like the first one of a house", Story.faceOf(twin), Story.faceOf(x));
        for (int i = 0; i < 12; i++) {
            x.run(700);
            twin.run(700);
            Checks.same("and goes on like it", Story.faceOf(twin), Story.faceOf(x));
        }
        // The seeds, sessions, wrong keys and messages are those of a new car, too.
        Checks.same("session 1", "127 39 34", Checks.asked(x, 0, 900, 39, 1));
        Checks.same("session 2", "80 2", Checks.asked(x, 0, 900, 16, 2));
        Checks.same("the first seed", "103 1 158 55 121 177", Checks.asked(x, 0, 900, 39, 1));
        Checks.same("the first wrong key", "127 39 53", Checks.asked(x, 0, 900, 39, 2, 0, 0, 0, 0));
    }

    /** A core with more to do than it can, chains that are stopped, a full QUEUE, guards by zero, and a watch. */
    private static String busy(String edge) {
        return "controller a\ncontroller b\ntask t a 3 500 0 400\ntask u a 2 500 100 400\ntask v a 2 700 90 50\ntask w b 1 1000 300 10\nchart c t 0\nchart e w 5\n"
            + "datum c d 7\nstate c s top plain\nstate c r top plain\nedge c s r 0\nafter c s 1\n" + edge + "\ntake c d 1 more\ndatum e f 0\ndatum e z 0\n"
            + "state e s top plain\nedge e s s 9 if f div z\nsignal g 8 c d 500\n" + Faults.many(20, "read g e f 9") + "watch g b 9";
    }

    /** Not the same text before, and not the same calls: what a car does is told by its own text alone. */
    private static void whateverWasBefore() {
        String still = busy("edge c r s 9");
        String moving = busy("edge c s s time");
        String marks = "controller a\ncontroller b\ntask t a 1 500 0 5\ntask u b 1 500 0 5\nchart c t 5\nchart e u 5\nstate c h top history\nstate c s top split\n"
            + "state c p s plain\nstate c q s plain\nedge c s h 0\nstate e f top fork\n";
        String bare = "controller a\ncontroller b\ntask t a 1 500 0 5\nchart c t 5\ndatum c d 7\nstate c s top plain\nedge c s s 9\nedge c s s time\nafter c s 100\n";
        String[] texts = {still, moving, marks, bare};
        for (String before : texts) {
            for (String text : texts) {
                for (int micros : new int[] {450, 910, 1750, 6000, 7777}) {
                    CarHouse x = Checks.carOf(before);
                    x.silence(0, micros == 6000);
                    x.run(micros);
                    x.cut(0);
                    Checks.tell(x, text);
                    Checks.due("another car", 0, x::system);
                    sameLife(x, Checks.carOf(text), micros == 7777 ? 0 : 1200);
                }
            }
        }
    }

    /** From some time on a is silent, so that the watch fails: 1500 behind the last frame, or behind 0. */
    private static void sameLife(CarHouse x, CarHouse twin, int silent) {
        for (CarHouse each : new CarHouse[] {x, twin}) {
            each.run(silent);
            each.silence(0, true);
        }
        for (int i = 0; i < 6; i++) {
            x.run(611);
            twin.run(611);
            Checks.same("whatever was before", Story.faceOf(twin), Story.faceOf(x));
        }
    }

    /** Rights, an open seed and three wrong keys are of the car before; they would show without a session being begun. */
    private static void openRights() {
        String[] car = {"controller a", "controller b", "task t a 1 20000 0 1", "chart c t 1", "datum c d 1"};
        CarHouse x = Checks.carOf(car);
        Tester.openRights(x, 0);
        Checks.same("rights are open", "110 1 0", Tester.write(x, 0, 900, 1, 0, 5));
        x.system();
        Checks.same("rights are shut in another car", "127 46 51", Tester.write(x, 0, 900, 1, 0, 5));
        Checks.due("nothing was written", 1, () -> x.value(0, 0));
        CarHouse seeded = Checks.carOf(car);
        Checks.asked(seeded, 1, 700, 16, 2);
        Checks.asked(seeded, 1, 700, 39, 1);
        int[] key = Cmac.keyFor(seeded);
        seeded.system();
        Checks.same("no seed is open in another car", "127 39 36", Checks.asked(seeded, 1, 700, key));
        CarHouse wrong = Checks.carOf(car);
        Checks.asked(wrong, 0, 700, 16, 2);
        for (int i = 0; i < 3; i++) {
            Checks.asked(wrong, 0, 700, 39, 1);
            Checks.asked(wrong, 0, 700, 39, 2, 0, 0, 0, 0);
        }
        Checks.same("three wrong keys", "127 39 54", Checks.answerOf(wrong));
        wrong.system();
        Checks.same("none in another car", "127 39 36", Checks.asked(wrong, 0, 700, 39, 2, 0, 0, 0, 0));
    }

    /** Each controller begins anew with the counters of protected frames: the first one of another car is no frame of the past. */
    private static void countersOfFrames() {
        for (int sender = 0; sender < 3; sender++) {
            CarHouse x = Checks.carOf("controller q0", "controller q1", "controller q2", "task t q" + sender + " 1 20000 0 1", "chart c t 1", "datum c d 5",
                "signal s 8 c d 500", "protect q" + sender + " 500 7");
            x.run(3000);
            Checks.due("none was refused", 0, () -> x.counted(1));
            x.system();
            x.run(3000);
            Checks.due("nor in another car", 0, () -> x.counted(1));
        }
    }

    /** Sides that wait when another car is made: they do not end what is asked in that one. */
    private static void unfinishedMessages() {
        for (int message = 1; message <= 4; message++) {
            CarHouse x = Checks.carOf("controller a", "task t a 1 20000 0 1", "chart c t 1", "datum c d -1", Faults.many(39, "signal s% 64 c d 1000"));
            if (message > 2) {
                Checks.asked(x, 0, 265, 25);
                Checks.due("two messages", 1, () -> x.counted(3));
            }
            // An odd one is a question of two frames, an even one the answer of three to one of one frame.
            Checks.say(x, message % 2 == 1 ? new int[] {1, 2, 3, 4, 5, 6, 7, 8} : new int[] {34, 1, 0});
            x.ask(0);
            int node = message % 2 == 1 ? 0 : 1;
            int before = x.node(node, 2);
            while (x.node(node, 2) == before) {
                x.run(1);
            }
            int waits = message;
            x.system();
            x.run(1100);
            Checks.say(x, 25);
            x.ask(0);
            x.run(3000);
            Checks.due("message " + waits + " of the car before", 0, x::asking);
            Checks.due("ends nothing in this one", 0, () -> x.counted(4));
        }
        CarHouse late = Checks.carOf("controller a");
        late.run(7000);
        late.system();
        Checks.say(late, 1, 2, 3, 4, 5, 6, 7, 8);
        late.ask(0);
        for (int t = 10; t < 1100; t += 8) {
            late.flip(0, t);
        }
        late.run(999);
        Checks.due("a sender waits from the time of its own car on", 0, late::asking);
        late.run(1);
        Checks.due("for 1000 ticks", -1, late::asking);
    }

    private static void octetsStay() {
        CarHouse x = new CarHouse();
        Checks.say(x, 34, 1);
        Checks.due("no car", 4, x::system);
        Checks.tell(x, "controller a\ntask t a 1 500 0 1\nchart c t 1\ndatum c d 258");
        Checks.due("a car", 0, x::system);
        Checks.say(x, 0);
        Checks.due("another car", 0, x::system);
        Checks.due("three octets were said", 3, () -> x.ask(0));
        x.run(900);
        Checks.same("in that order", "98 1 0 0 0 0 0 0 0 1 2", Checks.answerOf(x));
        Checks.say(x, 25);
        x.ask(0);
        x.system();
        Checks.due("what was asked is said no more", 1, () -> x.say((byte) 1));
    }

    private static List<ToLongFunction<CarHouse>> callsOfFirsts() {
        return List.of(x -> x.frame(0, 0), x -> x.signal(0, true), x -> x.bit(0), x -> x.node(0, 0), x -> x.error(-1, 0), x -> x.error(0, 0),
            x -> Checks.done(() -> x.flip(0, 0)), x -> x.running(0, 0), x -> x.task(0, 0), x -> x.active(0, 0), x -> x.value(0, 0), x -> x.chart(0, 0),
            x -> x.trouble(0, 0), x -> x.answer(0));
    }

    private static void noCarBehindAFault() {
        CarHouse x = Checks.carOf(RICH);
        Checks.say(x, 25);
        x.ask(0);
        x.run(900);
        Checks.tell(x, "\nx");
        Checks.due("a fault", 1, x::system);
        CarHouse none = new CarHouse();
        String face = Story.faceOf(none).replace("place 0", "place " + x.place());
        Checks.same("nothing of the car is left", face, Story.faceOf(x));
        Checks.thrown("no time goes by", IllegalStateException.class, () -> x.run(0));
        Checks.thrown("no cycle ends", IllegalStateException.class, () -> x.cycle(true));
        Checks.thrown("nobody is there to be silent", IndexOutOfBoundsException.class, () -> x.silence(0, true));
        for (ToLongFunction<CarHouse> call : callsOfFirsts()) {
            Checks.thrown("nothing is there of the lines before the fault", IndexOutOfBoundsException.class, () -> call.applyAsLong(x));
        }
        Checks.thrown("nor to be asked", IndexOutOfBoundsException.class, () -> x.ask(0));
        Checks.thrown("nor a node", IndexOutOfBoundsException.class, () -> x.node(0, 0));
    }
}
