import java.io.IOException;
import java.nio.file.Files;
import java.nio.file.Path;
import java.util.ArrayList;
import java.util.List;

/** The example of README.md: it stands here line by line, and answers what is told there. Promises 1, 2, 4 to 6, 9, 10, 18 to 20, 23 to 28. */
public final class ReadmeTest {
    public static void main(String[] args) throws IOException {
        example();
        asWritten();
        Checks.end("ReadmeTest");
    }

    private static void example() {
        CarHouse x = new CarHouse();

        tell(x, "controller engine\n"
            + "controller dash\n"
            + "task turn engine 5 1000 0 20      # rank 5, each 1000 microseconds from 0 on, it needs 20\n"
            + "chart motor turn 10               # at most 10 steps without an event in a row\n"
            + "datum motor speed 0\n"
            + "state motor off top plain\n"
            + "state motor on top plain\n"
            + "after motor off 1500              # off speaks 1500 microseconds behind its entry\n"
            + "edge motor off on time\n"
            + "take motor speed 700              # what happens on the edge before it\n"
            + "task show dash 5 1000 500 20\n"
            + "chart panel show 10\n"
            + "datum panel shown 0\n"
            + "state panel dark top plain\n"
            + "state panel lit top plain\n"
            + "edge panel dark lit 7 if shown ge 1\n"
            + "signal rpm 16 motor speed 1000    # 16 bits of speed, sent each 1000 microseconds\n"
            + "read rpm panel shown 7            # its value goes to shown, and event 7 to panel\n"
            + "watch rpm dash 20\n");

        int fault = x.system();
        int place = x.place();
        Checks.promise(4);
        Checks.due("fault", 0, () -> fault);
        Checks.promise(5);
        Checks.due("place", 0, () -> place);
        Checks.promise(6);
        Checks.due("frames", 1, () -> x.count(4));

        int done = x.run(2500);
        long speed = x.value(0, 0);
        int motor = x.active(0, 0);
        Checks.promise(9);
        Checks.due("frames of 1000 and 2000", 2, () -> done);
        Checks.promise(10);
        Checks.due("time", 2500, x::time);
        Checks.promise(19);
        Checks.due("speed", 700, () -> speed);
        Checks.promise(18);
        Checks.due("motor is on", 2, () -> motor);

        x.run(1100);
        long shown = x.value(1, 0);
        int panel = x.active(1, 0);
        Checks.promise(19);
        Checks.due("shown", 700, () -> shown);
        Checks.promise(18);
        Checks.due("panel is lit", 2, () -> panel);
        Checks.promise(20);
        Checks.due("the event of the first frame, whose speed was 0, was dropped", 1, () -> x.chart(1, 0));

        x.say((byte) 34);
        x.say((byte) 2);
        x.say((byte) 0);
        x.ask(1);
        x.run(700);
        byte[] answer = new byte[x.answers()];
        for (int i = 0; i < answer.length; i++) {
            answer[i] = (byte) x.answer(i);
        }
        Checks.promise(27);
        Checks.same("98 2 0 and the datum", "98 2 0 0 0 0 0 0 0 2 188", Checks.answerOf(x));
        Checks.promise(26);
        Checks.due("nothing is asked any more", -1, x::asking);
        Checks.promise(28);
        Checks.due("eleven octets", 11, () -> answer.length);
        Checks.promise(23);
        Checks.due("one answer", 1, () -> x.counted(3));
    }

    static void tell(CarHouse x, String text) {
        for (int i = 0; i < text.length(); i += 16) {
            x.text(four(text, i), four(text, i + 4), four(text, i + 8), four(text, i + 12));
        }
    }

    static int four(String text, int from) {
        int v = 0;
        for (int i = from; i < from + 4; i++) {
            v = v << 8 | (i < text.length() ? text.charAt(i) : 0);
        }
        return v;
    }

    /** Each line of code in README.md is one of this file, so that what is told there has been run. */
    private static void asWritten() throws IOException {
        List<String> here = new ArrayList<>();
        for (String line : Files.readAllLines(Path.of("src/test/java/ReadmeTest.java"))) {
            here.add(line.trim());
        }
        boolean code = false;
        int lines = 0;
        for (String line : Files.readAllLines(Path.of("README.md"))) {
            if (line.startsWith("```")) {
                code = line.equals("```java");
            } else if (code && !line.isBlank()) {
                lines++;
                Checks.same("README.md: " + line, "is run", here.contains(line.trim()) ? "is run" : "is not run");
            }
        }
        int found = lines;
        Checks.due("there are lines of code", 1, () -> found > 40 ? 1 : 0);
    }
}
