/** Promise 2, text, to its edges: sixteen characters in their order, those that are 0 left out, at most 6000 in all. */
public final class Promise02Test {
    private static final int FOUR_SPACES = 0x20202020;

    public static void main(String[] args) {
        Checks.promise(2);
        order();
        zeros();
        allCharacters();
        full();
        lastOneCounts();
        refusals();
        Checks.end("Promise02Test");
    }

    private static void length(String what, CarHouse x, int want) {
        Checks.thrown(what + ": not more than " + want, IllegalArgumentException.class, () -> x.cut(want + 1));
        Checks.due(what + ": " + want + " characters", want, () -> x.cut(want));
    }

    private static void order() {
        CarHouse x = new CarHouse();
        x.text(0x636f6e74, 0x726f6c6c, 0x65722062, 0x63646566);
        length("sixteen characters", x, 16);
        x.text(0x0a746173, 0x6b207420, 0x62636465, 0x66203120);
        length("thirty-two characters", x, 32);
        x.text(0x35303020, 0x30203100, 0, 0);
        Checks.due("controller bcdef, task t bcdef 1 500 0 1", 0, x::system);
        Checks.due("a controller", 1, () -> x.count(0));
        Checks.due("a task", 1, () -> x.count(1));
        // Each other order of the bytes, or of the ints, is another text.
        CarHouse y = new CarHouse();
        y.text(0x746e6f63, 0x6c6c6f72, 0x62207265, 0x66656463);
        Checks.due("the lowest byte does not come first", 1, y::system);
        CarHouse z = new CarHouse();
        z.text(0x63646566, 0x65722062, 0x726f6c6c, 0x636f6e74);
        Checks.due("nor the last int", 1, z::system);
    }

    /** One of the sixteen is 0, or all but one. */
    private static void zeros() {
        String fifteen = "controller abcd";
        for (int hole = 0; hole < 16; hole++) {
            StringBuilder told = new StringBuilder(fifteen).insert(hole, '\0');
            CarHouse x = new CarHouse();
            Checks.tell(x, told.toString());
            length("a 0 at " + hole, x, 15);
            Checks.due("a 0 at " + hole + " is left out", 0, x::system);
            CarHouse y = new CarHouse();
            StringBuilder one = new StringBuilder("\0\0\0\0\0\0\0\0\0\0\0\0\0\0\0\0");
            one.setCharAt(hole, 'c');
            Checks.tell(y, one.toString());
            length("one character at " + hole, y, 1);
        }
        CarHouse none = new CarHouse();
        none.text(0, 0, 0, 0);
        length("sixteen times 0", none, 0);
    }

    private static void allCharacters() {
        CarHouse x = new CarHouse();
        int before = 0;
        for (int c = 1; c < 256; c += 16) {
            StringBuilder told = new StringBuilder();
            for (int i = c; i < Math.min(c + 16, 256); i++) {
                told.append((char) i);
            }
            Checks.tell(x, told.toString());
            before += told.length();
            length("characters from " + c + " on", x, before);
        }
        CarHouse y = new CarHouse();
        y.text(0xffffffff, 0x80808080, 0x01010101, 0x7f7f7f7f);
        length("the highest and the least bytes", y, 16);
    }

    private static CarHouse spaces(int count) {
        CarHouse x = new CarHouse();
        for (int i = 0; i < count / 16; i++) {
            x.text(FOUR_SPACES, FOUR_SPACES, FOUR_SPACES, FOUR_SPACES);
        }
        for (int i = 0; i < count % 16; i++) {
            x.text(0, 0, 0, 32);
        }
        return x;
    }

    private static long sixteen(CarHouse x) {
        return Checks.done(() -> x.text(FOUR_SPACES, FOUR_SPACES, FOUR_SPACES, FOUR_SPACES));
    }

    private static void full() {
        CarHouse x = spaces(5984);
        Checks.due("sixteen more are 6000", 0, () -> sixteen(x));
        length("a full text", x, 6000);
        Checks.thrown("sixteen more are too many", IllegalStateException.class, () -> sixteen(x));
        Checks.due("none more are not", 0, () -> Checks.done(() -> x.text(0, 0, 0, 0)));
        length("still full", x, 6000);
        for (int place = 0; place < 16; place++) {
            int[] four = new int[4];
            four[place / 4] = 1 << 24 - 8 * (place % 4);
            Checks.thrown("one more, at " + place + ", is too many", IllegalStateException.class,
                () -> Checks.done(() -> x.text(four[0], four[1], four[2], four[3])));
        }
        length("none of these came", x, 6000);
        x.cut(5999);
        Checks.thrown("two are too many behind 5999", IllegalStateException.class, () -> Checks.done(() -> x.text(32 << 24, 0, 0, 32)));
        length("not even the first of the two came", x, 5999);
        Checks.due("one is not", 0, () -> Checks.done(() -> x.text(0, 0, 32 << 8, 0)));
        length("full again", x, 6000);
        CarHouse y = spaces(5985);
        Checks.thrown("sixteen are too many behind 5985", IllegalStateException.class, () -> sixteen(y));
        length("none of sixteen came", y, 5985);
        Checks.due("but fifteen are not", 0, () -> Checks.done(() -> y.text(FOUR_SPACES, FOUR_SPACES, FOUR_SPACES, 0x00202020)));
        length("now it is full", y, 6000);
    }

    /** The 6000th character is one of the text: without it the name is missing. */
    private static void lastOneCounts() {
        CarHouse x = spaces(5988);
        Checks.tell(x, "controller z");
        Checks.due("a car by the last character", 0, x::system);
        Checks.due("one controller", 1, () -> x.count(0));
        x.cut(5999);
        Checks.due("without it a word is missing", 2, x::system);
        Checks.due("at the end", 5999, x::place);
    }

    private static void refusals() {
        Checks.refused("sixteen characters behind 6000", IllegalStateException.class, () -> spaces(6000), Promise02Test::sixteen);
        Checks.refused("sixteen characters behind 5985", IllegalStateException.class, () -> {
            CarHouse x = spaces(5968);
            Checks.tell(x, "\ncontroller a\n ");
            x.text(0, 0, 0, 32);
            x.text(0, 0, 0, 32);
            x.system();
            x.run(30);
            return x;
        }, Promise02Test::sixteen);
    }
}
