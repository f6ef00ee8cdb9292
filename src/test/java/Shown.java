import java.util.ArrayList;
import java.util.List;

/** What is to be shown: plain bits up to the octets' end, and what of the rest is to be wrong. */
final class Shown {
    static final int START = 100;
    private static final int[] FLEXIBLE = {0, 1, 2, 3, 4, 5, 6, 7, 8, 12, 16, 20, 24, 32, 48, 64};
    private final int kind;
    private final int code;
    private final List<Integer> plain = new ArrayList<>();
    int wrongCheck;
    int wrongCount = -1;
    int wrongFixed = -1;
    /** The bits on the wire, without acknowledge and what is behind it. */
    private final List<Integer> wire = new ArrayList<>();
    /** Where the last bit of COUNT, the wrong fixed bit, and each plain bit stand on the wire. */
    int countEnd;
    int fixedAt;
    final List<Integer> at = new ArrayList<>();

    Shown(int kind, int identifier, int code, int... octets) {
        this.kind = kind;
        this.code = code;
        boolean extended = kind % 2 == 1;
        add(0, 1);
        add(extended ? identifier >> 18 : identifier, 11);
        if (extended) {
            add(3, 2);
            add(identifier & 0x3ffff, 18);
            add(kind == 5 ? 1 : 0, 1);
            add(kind == 3 ? 8 : 0, kind == 3 ? 4 : 2);
        } else {
            add(kind == 4 ? 2 : 0, 2);
            add(kind == 2 ? 8 : 0, kind == 2 ? 4 : 1);
        }
        add(code, 4);
        for (int i = 0; i < count(); i++) {
            add(i < octets.length ? octets[i] : 37 * i + 255 & 255, 8);
        }
    }

    int count() {
        return kind >= 4 ? 0 : kind < 2 ? Math.min(code, 8) : FLEXIBLE[code];
    }

    private void add(int v, int bits) {
        for (int i = bits - 1; i >= 0; i--) {
            plain.add(v >> i & 1);
        }
    }

    Shown with(int i, int bit) {
        plain.set(i, bit);
        return this;
    }

    private static int check(List<Integer> bits, int width, int by) {
        int register = width == 15 ? 0 : 1 << width - 1;
        for (int bit : bits) {
            boolean differs = (register >> width - 1 & 1) != bit;
            register = register << 1 & (1 << width) - 1;
            register ^= differs ? by : 0;
        }
        return register;
    }

    private int stuff(List<Integer> bits, boolean behindLast) {
        int same = 0;
        int last = -1;
        int stuffed = 0;
        for (int i = 0; i < bits.size(); i++) {
            at.add(wire.size());
            wire.add(bits.get(i));
            same = bits.get(i) == last ? same + 1 : 1;
            last = bits.get(i);
            if (same == 5 && (behindLast || i + 1 < bits.size())) {
                last = 1 - last;
                same = 1;
                wire.add(last);
                stuffed++;
            }
        }
        return stuffed;
    }

    /** The check's register behind the octets of a flexible frame, before COUNT. */
    int register() {
        stuff(plain, false);
        int register = count() <= 16 ? check(wire, 17, 92251) : check(wire, 21, 1058969);
        wire.clear();
        at.clear();
        return register;
    }

    List<Integer> lay() {
        if (kind == 2 || kind == 3) {
            layFlexible();
        } else {
            int check = check(plain, 15, 17817) ^ wrongCheck;
            List<Integer> all = new ArrayList<>(plain);
            for (int i = 14; i >= 0; i--) {
                all.add(check >> i & 1);
            }
            stuff(all, true);
        }
        wire.add(1);
        return wire;
    }

    private void layFlexible() {
        int stuffed = stuff(plain, false) % 8;
        int three = stuffed ^ stuffed / 2;
        int four = three << 1 | Integer.bitCount(three) % 2;
        List<Integer> checked = new ArrayList<>(wire);
        List<Integer> behind = new ArrayList<>();
        for (int i = 3; i >= 0; i--) {
            behind.add(four >> i & 1);
            checked.add(four >> i & 1);
        }
        int width = count() <= 16 ? 17 : 21;
        int check = check(checked, width, width == 17 ? 92251 : 1058969) ^ wrongCheck;
        for (int i = width - 1; i >= 0; i--) {
            behind.add(check >> i & 1);
        }
        if (wrongCount >= 0) {
            behind.set(wrongCount, 1 - behind.get(wrongCount));
        }
        for (int i = 0; i < behind.size(); i++) {
            if (i % 4 == 0) {
                boolean wrong = wrongFixed == i / 4;
                fixedAt = wrong ? wire.size() : fixedAt;
                wire.add(wrong ? wire.get(wire.size() - 1) : 1 - wire.get(wire.size() - 1));
            }
            countEnd = i == 3 ? wire.size() : countEnd;
            wire.add(behind.get(i));
        }
    }

    /** The acknowledge's time; up to it a flip makes each 0, behind it flips hide the flags of the others. */
    int show(CarHouse x, int node) {
        lay();
        int start = Math.max(START, x.time());
        for (int i = 0; i < wire.size(); i++) {
            if (wire.get(i) == 0) {
                x.flip(node, start + i);
            }
        }
        int acknowledge = start + wire.size();
        x.flip(node, acknowledge + 7);
        x.flip(node, acknowledge + 8);
        return acknowledge;
    }
}
