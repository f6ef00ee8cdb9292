/** Texts with a fault, whose place ^ marks, and texts without one. */
final class Faults {
    /** Something of each sort, so that one line more has all that it may name. */
    static final String BASE = String.join("\n",
        "controller a", "controller b", "task t a 1 500 0 1", "task u b 1 500 0 1", "task v a 1 500 0 1", "chart c t 1", "chart e u 1",
        "datum c d 0", "datum e f 0", "state c s top plain", "state c h s history", "state c w s deep", "state c k s fork", "state c j s join",
        "edge c s s 1", "signal g 8 c d 500", "");

    private Faults() {
    }

    static void fault(int want, String marked) {
        CarHouse x = new CarHouse();
        Checks.tell(x, marked.replace("^", ""));
        String line = marked.substring(Math.max(0, Math.min(marked.length(), marked.indexOf('^')) - 40));
        Checks.due("system() at .. " + line, want, x::system);
        Checks.due("place() at .. " + line, marked.indexOf('^'), x::place);
        Checks.due("no car at .. " + line, 0, x::time);
        Checks.thrown("no car at .. " + line, IllegalStateException.class, () -> x.count(0));
    }

    static void good(String text) {
        CarHouse x = new CarHouse();
        Checks.tell(x, text);
        Checks.due("system() of .. " + text.substring(Math.max(0, text.length() - 60)), 0, x::system);
        Checks.due("place() of a car", 0, x::place);
    }

    static String many(int count, String line) {
        StringBuilder told = new StringBuilder();
        for (int i = 0; i < count; i++) {
            told.append(line.replace("%", Integer.toString(i, 36))).append('\n');
        }
        return told.toString();
    }
}
