import java.util.TreeSet;

/** Numbers outside of bounds, and calls with them. */
final class Edges {
    private static final int[] FAR = {Integer.MIN_VALUE, Integer.MIN_VALUE + 1, Integer.MAX_VALUE - 1,
        Integer.MAX_VALUE};
    /** What a number becomes if only some of its bits are looked at. */
    private static final int[] WRAPS = {1 << 8, 1 << 16, 1 << 31};

    private Edges() {
    }

    /** The first ones outside on both sides, the ones that would wrap to the bounds, and the farthest. */
    static int[] outside(int least, int most) {
        TreeSet<Integer> found = new TreeSet<>();
        found.add(least - 1);
        found.add(most + 1);
        for (int wrap : WRAPS) {
            found.add(least + wrap);
            found.add(most - wrap);
        }
        for (int far : FAR) {
            found.add(far);
        }
        found.removeIf(n -> n >= least && n <= most);
        return found.stream().mapToInt(n -> n).toArray();
    }

    /** The call is refused for each value of the argument at place k that lies outside, and changes nothing. */
    static void refused(Check check, Houses kind, int want, int k, int least, int most, Calls.Call call) {
        for (int value : outside(least, most)) {
            long[] args = call.args.clone();
            args[k] = value;
            Twins.refused(check, kind, want, call.name, args);
        }
    }
}
