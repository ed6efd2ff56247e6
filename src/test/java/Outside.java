/** Values that the document's limits leave out: the nearest, the farthest, and some that would wrap into the limits. */
final class Outside {
    static final int[] SLOTS = {-1, 6, -6, 7, 8, 256, Integer.MIN_VALUE, Integer.MAX_VALUE};
    static final int[] LOCKS = {-1, 4, -4, 5, 8, 256, Integer.MIN_VALUE, Integer.MAX_VALUE};
    static final int[] RATES = {8, 12, 0, -9, -10, 266, Integer.MIN_VALUE, Integer.MAX_VALUE};
    static final int[] TERMS = {0, 101, -1, -100, 257, Integer.MIN_VALUE, Integer.MAX_VALUE};
    static final int[] STEPS = {-1, 101, -100, 256, Integer.MIN_VALUE, Integer.MAX_VALUE};
    static final int[] TOKENS = {0, -1, Integer.MIN_VALUE};

    private Outside() {
    }
}
