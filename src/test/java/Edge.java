/** Numbers at the edges of ranges. */
final class Edge {
    static final int LEAST = Integer.MIN_VALUE;
    static final int GREATEST = Integer.MAX_VALUE;

    private Edge() {
    }

    /**
     * Numbers that are not 0 .. bound - 1 (bound being 16 at the most): those next to the range,
     * those that a mask or a shift would take for one of it, and the farthest.
     */
    static int[] beside(int bound) {
        return new int[] {
            -1, bound, bound + 1, -bound, 16, 32, 33, 64, 256, 65536, LEAST, LEAST + 1, GREATEST
        };
    }
}
