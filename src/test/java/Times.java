/** Times a by b at the bounds that the document tells: a 0 .. 9,999, b 1 .. 9,999. */
final class Times {
    static final int[][] WRONG = {
        {-1, 1}, {10000, 1}, {0, 0}, {0, -1}, {0, 10000}, {-1, 0}, {10000, 10000}, {1, 0}, {-1, -1},
        {Integer.MIN_VALUE, 1}, {Integer.MAX_VALUE, 1}, {0, Integer.MIN_VALUE}, {0, Integer.MAX_VALUE}};

    /** Each with how many cells' halves are over by then: 1 while t is below 1/2. */
    static final int[][] BOUNDS = {{0, 1, 1}, {0, 9999, 1}, {9999, 1, 0}, {9999, 9999, 0}, {1, 9999, 1}, {1, 1, 0}};

    private Times() {
    }

    static String of(int[] time) {
        return time[0] + ", " + time[1];
    }
}
