/** Frames with keys, of promises 7, 9 and 23: what they have on the bus, and which of them are refused. */
public final class ProtectTest {
    private static final String[] CAR = {
        "controller a", "controller b", "controller c", "task t a 1 500 0 1", "task u b 1 20000 0 1", "chart x t 5", "datum x n 66051",
        "state x s top plain", "edge x s s time", "take x n 1 more", "after x s 500", "chart y u 1", "datum y d 0", "datum y e 0",
        "signal g 24 x n 500 turned", "signal f 8 x n 600", "protect a 500 9", "read g y d 0", "watch g b 7", "watch g c 7"};

    public static void main(String[] args) {
        Checks.promise(9);
        octets();
        sentAgain();
        silentForAWhile();
        Checks.end("ProtectTest");
    }

    private static String protectedFrame(int identifier, int key, int sent, int value) {
        StringBuilder told = new StringBuilder().append(identifier).append(" |");
        for (int octet : Cmac.frame((identifier - 64) / 8, key, sent, value >> 16 & 255, value >> 8 & 255, value & 255)) {
            told.append(' ').append(octet);
        }
        return told.append(" | right").toString();
    }

    private static void octets() {
        CarHouse x = Checks.carOf(CAR);
        x.run(1700);
        // The chart starts at 2 with 66051, which is 1 2 3, and adds one at 502 and 1002, both of which its task does then.
        Checks.same("sent at 500", protectedFrame(64, 9, 1, 66051), Checks.frameAt(x, 500));
        Checks.same("sent at 1000", protectedFrame(64, 9, 2, 66052), Checks.frameAt(x, 1000));
        Checks.same("sent at 1500", protectedFrame(64, 9, 3, 66053), Checks.frameAt(x, 1500));
        Checks.due("none was refused", 0, () -> x.counted(1));
        Checks.due("the datum was read", 66053, () -> x.value(1, 0));
        Checks.due("sent", 3, () -> x.frame(0, 4) + x.frame(1, 4) - 2);
        CarHouse keys = Checks.carOf("controller a", "task t a 1 20000 0 1", "chart x t 5", "datum x n 1", "signal g 24 x n 500 turned",
            "signal h 24 x n 700 turned", "protect a 500 16", "protect a 700 1");
        keys.run(900);
        Checks.same("key 16 at position 0", protectedFrame(64, 16, 1, 1), Checks.frameAt(keys, 500));
        Checks.same("key 1 at position 1", protectedFrame(72, 1, 1, 1), Checks.frameAt(keys, 700));
    }

    private static int lastEnd() {
        CarHouse x = Checks.carOf(CAR);
        x.run(501);
        while (x.node(0, 0) == 1) {
            x.run(1);
        }
        return x.time() - 1;
    }

    /** A sender that sees 0 at its last end sends again what the others have taken already. */
    private static void sentAgain() {
        CarHouse x = Checks.carOf(CAR);
        x.flip(0, lastEnd());
        x.run(950);
        Checks.due("b took it twice, and the frame without key", 3, () -> x.node(1, 2));
        Checks.due("the second one was refused by b and c", 2, () -> x.counted(1));
        Checks.due("sent once", 1, () -> x.frame(1, 4));
        Checks.due("the watch heard it once only", 80, () -> x.trouble(0, 0));
        x.run(500);
        Checks.due("the next one is taken", 2, () -> x.counted(1));
        Checks.due("heard twice", 0, () -> x.trouble(0, 0));
    }

    /** The counter is of those that were sent, so it does not go on while a controller is silent. */
    private static void silentForAWhile() {
        CarHouse x = Checks.carOf(CAR);
        x.silence(0, true);
        x.run(2400);
        x.silence(0, false);
        Checks.due("not sent", 0, () -> x.frame(1, 4));
        x.run(800);
        Checks.due("the counter is of those sent", 2, () -> x.frame(1, 4));
        Checks.due("none was refused", 0, () -> x.counted(1));
    }
}
