/** Questions of several steps, as tests need them to make data what no text can. */
final class Tester {
    private Tester() {
    }

    /** Behind this the rights of a controller are open; some 2100 microseconds have gone by. */
    static void openRights(CarHouse x, int controller) {
        Checks.same("session 2", "80 2", Checks.asked(x, controller, 700, 16, 2));
        Checks.asked(x, controller, 700, 39, 1);
        Checks.same("the right key", "103 2", Checks.asked(x, controller, 700, Cmac.keyFor(x)));
    }

    static String write(CarHouse x, int controller, int micros, int chart, int datum, long v) {
        int[] question = new int[11];
        question[0] = 46;
        question[1] = chart;
        question[2] = datum;
        for (int i = 0; i < 8; i++) {
            question[3 + i] = (int) (v >>> 56 - 8 * i) & 255;
        }
        return Checks.asked(x, controller, micros, question);
    }
}
