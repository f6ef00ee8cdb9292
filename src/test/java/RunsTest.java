import java.nio.charset.StandardCharsets;
import java.nio.file.Files;
import java.nio.file.Path;
import java.util.List;

/**
 * Runs of calls with the answers of a second program that the same author wrote from the document: against slips, not misreadings.
 * Lines of src/test/runs/runs.txt: "new" begins a run, "| .." is a line told behind the text, others are a call = its answer.
 */
public final class RunsTest {
    private static CarHouse x;
    private static int systems;
    private static boolean said;

    public static void main(String[] args) throws Exception {
        List<String> lines = Files.readAllLines(Path.of("src/test/runs/runs.txt"), StandardCharsets.ISO_8859_1);
        replay(lines, "on objects of their own", false);
        // A car is made instead of the one that there was: of that nothing may be left.
        replay(lines, "one behind the other", true);
        Checks.end("RunsTest");
    }

    private static void replay(List<String> lines, String how, boolean together) {
        int run = 0;
        for (int i = 0; i < lines.size(); i++) {
            String line = lines.get(i);
            if (line.equals("new")) {
                run++;
                begin(together);
            } else if (line.startsWith("|")) {
                Checks.tell(x, line.substring(2) + "\n");
            } else if (!line.isEmpty()) {
                String[] sides = line.split(" = ");
                String what = "run " + run + " " + how + ", line " + (i + 1) + ": " + sides[0];
                Checks.same(what, sides[1], answer(sides[0].split(" ")));
            }
        }
    }

    /** Octets that were said and not asked stay with an object, so the next run needs a new one. */
    private static void begin(boolean together) {
        if (together && x != null && systems < 15 && !said) {
            x.cut(0);
        } else {
            x = new CarHouse();
            systems = 0;
            said = false;
        }
    }

    private static String answer(String[] words) {
        int a = words.length > 1 ? Integer.parseInt(words[1]) : 0;
        int b = words.length > 2 ? Integer.parseInt(words[2]) : 0;
        try {
            return Long.toString(call(words[0], a, b));
        } catch (RuntimeException e) {
            return e.getClass().getSimpleName();
        }
    }

    private static long call(String name, int a, int b) {
        switch (name) {
            case "cut": return x.cut(a);
            case "system":
                systems++;
                return x.system();
            case "place": return x.place();
            case "count": return x.count(a);
            case "frame": return x.frame(a, b);
            case "signal": return x.signal(a, b == 1);
            case "run": return x.run(a);
            case "time": return x.time();
            case "bit": return x.bit(a);
            case "node": return x.node(a, b);
            case "error": return x.error(a, b);
            case "flip": return Checks.done(() -> x.flip(a, b));
            case "silence": return x.silence(a, b == 1);
            case "running": return x.running(a, b);
            case "task": return x.task(a, b);
            case "active": return x.active(a, b);
            case "value": return x.value(a, b);
            case "chart": return x.chart(a, b);
            case "trouble": return x.trouble(a, b);
            case "cycle": return x.cycle(a == 1);
            case "counted": return x.counted(a);
            case "say":
                said = true;
                return x.say((byte) a);
            case "ask":
                int octets = x.ask(a);
                said = false;
                return octets;
            case "asking": return x.asking();
            case "answer": return x.answer(a);
            case "answers": return x.answers();
            default: throw new UnsupportedOperationException(name);
        }
    }
}
