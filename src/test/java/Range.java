import java.util.Set;
import java.util.TreeSet;

/** The numbers that an argument may be, from the least to the most. */
final class Range {
    static final Range BUILD = new Range(0, 1);
    static final Range TYPE = new Range(0, 11);
    static final Range ORDINARY_TYPE = new Range(1, 11);
    static final Range SIGN = new Range(0, 14);
    static final Range ACCESS = new Range(0, 3);
    static final Range MEMBER_FLAGS = new Range(0, 7);

    // What lies so far from a number of the range looks like it where a shift wraps around or bits get lost.
    private static final int[] WRAPS = {16, 32, 64, 256, 65536, Integer.MIN_VALUE};

    final int least;
    final int most;

    Range(int least, int most) {
        this.least = least;
        this.most = most;
    }

    boolean contains(int number) {
        return least <= number && number <= most;
    }

    /** Wrong numbers: next to the range, far away, and those that wrap around into it. */
    Set<Integer> outside() {
        Set<Integer> numbers = new TreeSet<>(Set.of(-1, -2, -3, Integer.MIN_VALUE, Integer.MAX_VALUE));
        numbers.add(least - 1);
        numbers.add(most + 1);
        for (int wrap : WRAPS) {
            for (int end : new int[] {least, most}) {
                numbers.add(end + wrap);
                numbers.add(end - wrap);
            }
        }
        numbers.removeIf(this::contains);
        return numbers;
    }
}
