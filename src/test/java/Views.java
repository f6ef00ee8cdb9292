import java.util.ArrayList;
import java.util.Arrays;
import java.util.List;
import java.util.function.Supplier;

/** Frames that nodes are shown by flips, each node those of its own, on a bus that may be busy: all other bits that nodes see are 1. */
final class Views {
    private final Supplier<CarHouse> begin;
    private final int from;
    private final int[][] seen;
    private final List<int[]> flips = new ArrayList<>();

    /** What nodes see from a time on, for so many bit times, of a car that is begun in the same way each time. */
    Views(Supplier<CarHouse> begin, int nodes, int from, int bits) {
        this.begin = begin;
        this.from = from;
        this.seen = new int[nodes][bits];
        for (int[] row : seen) {
            Arrays.fill(row, 1);
        }
    }

    /** A node takes a frame in the bit time that is told: its sixth END, the eighth bit behind the acknowledge. */
    Views show(int node, Shown frame, int taken) {
        List<Integer> wire = frame.lay();
        int start = taken - from - 7 - wire.size();
        for (int i = 0; i < wire.size(); i++) {
            seen[node][start + i] = wire.get(i);
        }
        return this;
    }

    /** Found bit by bit: what the bus is at a bit time does not depend on the flips of that time. */
    CarHouse end() {
        for (int t = from; t < from + seen[0].length; t++) {
            CarHouse x = again();
            x.run(t + 1 - x.time());
            for (int n = 0; n < seen.length; n++) {
                if (x.bit(t) != seen[n][t - from]) {
                    flips.add(new int[] {n, t});
                }
            }
        }
        CarHouse x = again();
        x.run(from + seen[0].length - x.time());
        return x;
    }

    private CarHouse again() {
        CarHouse x = begin.get();
        for (int[] flip : flips) {
            x.flip(flip[0], flip[1]);
        }
        return x;
    }
}
