/** Numbers just outside of what is taken. */
final class Edges {
    private static final long INT_WRAP = 1L << 32;

    private Edges() {
    }

    /** Indexes that none of so many things has. */
    static int[] noneOf(int count) {
        return new int[] {-1, count, count + 1, Integer.MIN_VALUE, Integer.MAX_VALUE};
    }

    /** The neighbours, the farthest, and those that would be inside if they were cut to an int. */
    static long[] outside(long least, long most) {
        long[] candidates = {
            least - 1, most + 1, Long.MIN_VALUE, Long.MAX_VALUE, least - INT_WRAP, most - INT_WRAP,
            least + INT_WRAP, most + INT_WRAP, Long.MIN_VALUE + least, Long.MIN_VALUE + most};
        int count = 0;
        long[] found = new long[candidates.length];
        for (long value : candidates) {
            if (value < least || value > most) {
                found[count++] = value;
            }
        }
        return java.util.Arrays.copyOf(found, count);
    }
}
