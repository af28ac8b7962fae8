/** Numbers that name nothing, with those that a wrap-around or a mask would turn into a name. */
final class Odd {
    private static final int MIN = Integer.MIN_VALUE;
    private static final int MAX = Integer.MAX_VALUE;

    /** None is 0 .. 3: 8 k, 4 k or 2 k of some wraps around to that of one that is. */
    static final int[] PARTS = {
        4, 5, 7, 8, 24, 31, 32, 255, 256, 257, 1 << 28, 1 << 29, (1 << 29) + 1, (1 << 29) + 3, 1 << 30, (1 << 30) + 2,
        MAX - 1, MAX, MIN, MIN + 1, MIN + 3, -1 << 30, -1 << 29, -256, -8, -4, -3, -2, -1
    };

    /** None is a step of any way, the longest of which has seven ids. */
    static final int[] STEPS = {
        7, 8, 9, 31, 32, 33, 64, 100, 256, 1 << 16, 1 << 30, MAX - 1, MAX, MIN, MIN + 1, MIN + 7, -256, -32, -8, -2, -1
    };

    /** None is a leaf, however many there are. */
    static final int[] LEAVES = {
        100, 101, 127, 128, 150, 201, 202, 203, 255, 256, 1 << 16, 1 << 24, 1 << 29, 1 << 30, MAX - 1, MAX,
        MIN, MIN + 1, MIN + 99, -1 << 29, -256, -101, -100, -99, -2, -1
    };

    private Odd() { }
}
