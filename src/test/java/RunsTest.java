import java.nio.charset.StandardCharsets;
import java.nio.file.Files;
import java.nio.file.Path;
import java.util.List;

/**
 * Runs of calls with the answers of a second program, written from the document alone.
 * Lines of src/test/runs/runs.txt: "new" begins a run, "| .." is a line told behind the text, others are a call = its answer.
 */
public final class RunsTest {
    private static CarHouse x;

    public static void main(String[] args) throws Exception {
        List<String> lines = Files.readAllLines(Path.of("src/test/runs/runs.txt"), StandardCharsets.ISO_8859_1);
        int run = 0;
        for (int i = 0; i < lines.size(); i++) {
            String line = lines.get(i);
            if (line.equals("new")) {
                x = new CarHouse();
                run++;
            } else if (line.startsWith("|")) {
                Checks.tell(x, line.substring(2) + "\n");
            } else if (!line.isEmpty()) {
                String[] sides = line.split(" = ");
                Checks.same("run " + run + ", line " + (i + 1) + ": " + sides[0], sides[1], answer(sides[0].split(" ")));
            }
        }
        Checks.end("RunsTest");
    }

    private static String answer(String[] words) {
        int a = words.length > 1 ? Integer.parseInt(words[1]) : 0;
        int b = words.length > 2 ? Integer.parseInt(words[2]) : 0;
        try {
            return Long.toString(call(words[0], a, b));
        } catch (RuntimeException e) {
            return e.getClass().getSimpleName();
        }
    }

    private static long call(String name, int a, int b) {
        switch (name) {
            case "cut": return x.cut(a);
            case "system": return x.system();
            case "place": return x.place();
            case "count": return x.count(a);
            case "frame": return x.frame(a, b);
            case "signal": return x.signal(a, b == 1);
            case "run": return x.run(a);
            case "time": return x.time();
            case "bit": return x.bit(a);
            case "node": return x.node(a, b);
            case "error": return x.error(a, b);
            case "flip": return Checks.done(() -> x.flip(a, b));
            case "silence": return x.silence(a, b == 1);
            case "running": return x.running(a, b);
            case "task": return x.task(a, b);
            case "active": return x.active(a, b);
            case "value": return x.value(a, b);
            case "chart": return x.chart(a, b);
            case "trouble": return x.trouble(a, b);
            case "cycle": return x.cycle(a == 1);
            case "counted": return x.counted(a);
            case "say": return x.say((byte) a);
            case "ask": return x.ask(a);
            case "asking": return x.asking();
            case "answer": return x.answer(a);
            case "answers": return x.answers();
            default: throw new UnsupportedOperationException(name);
        }
    }
}
