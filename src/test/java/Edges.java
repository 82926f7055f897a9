import java.util.Set;
import java.util.TreeSet;

/** Numbers beyond the bounds that the document names. */
final class Edges {
    private Edges() {
    }

    /**
     * The next ones beyond the least and the greatest number that is taken, the least and the
     * greatest int, and those that a shift or a product with wrap-around would bring back inside.
     */
    static int[] beyond(int least, int greatest) {
        Set<Integer> found = new TreeSet<>();
        for (int near = 1; near <= 4; near++) {
            found.add(least - near);
            found.add(greatest + near);
        }
        for (int shift = 4; shift < 31; shift++) {
            found.add((1 << shift) + least);
            found.add((1 << shift) + greatest);
            found.add(-(1 << shift) + greatest);
        }
        found.add(Integer.MIN_VALUE);
        found.add(Integer.MIN_VALUE + 1);
        found.add(Integer.MIN_VALUE + 4);
        found.add(Integer.MAX_VALUE - 4);
        found.add(Integer.MAX_VALUE);
        found.removeIf(number -> number >= least && number <= greatest);
        return found.stream().mapToInt(Integer::intValue).toArray();
    }
}
