import java.util.Random;

/**
 * Promises 1 to 12 at once: runs of 512 calls, made from a seed, against the plain desk. Two runs go in turns,
 * since "All memory is the class's own": what one object does must not show in another.
 */
public final class RandomRunsTest {
    private static final int RUNS = 240;
    private static final int CALLS = 512;
    private static final int[] ADDS_BELOW = {12, 25, 45, 70};
    private static final int[] ODD_NUMBERS = {
        Integer.MIN_VALUE, Integer.MIN_VALUE + 1, -101, -2, -1, 4, 5, 8, 9, 100, 101, 150, 202,
        1 << 29, 1 << 30, Integer.MAX_VALUE - 1, Integer.MAX_VALUE
    };

    private final Random chance;
    private final int addsBelow;
    private final boolean longRows;
    private final Twin twin;

    private RandomRunsTest(Due due, int seed) {
        this.chance = new Random(seed);
        this.addsBelow = ADDS_BELOW[seed % ADDS_BELOW.length];
        this.longRows = seed % 5 == 0;
        this.twin = new Twin(due, "run " + seed);
    }

    public static void main(String[] args) {
        Due due = new Due();
        for (int seed = 0; seed < RUNS; seed += 2) {
            RandomRunsTest one = new RandomRunsTest(due, seed);
            RandomRunsTest other = new RandomRunsTest(due, seed + 1);
            for (int call = 0; call < CALLS; call++) {
                one.oneCall();
                other.oneCall();
            }
        }
        due.end();
    }

    private void oneCall() {
        int kind = chance.nextInt(100);
        if (longRows && chance.nextInt(5) > 0) {
            twin.put(chance.nextLong(), 1 + chance.nextInt(8));
        } else if (kind < addsBelow) {
            if (chance.nextInt(3) > 0) {
                twin.add();
            } else {
                put();
            }
        } else if (kind < addsBelow + 6) {
            twin.drop();
        } else {
            otherCall();
        }
    }

    private void otherCall() {
        int i = leafNumber();
        int j = number(8);
        int k = number(4);
        switch (chance.nextInt(11)) {
            case 0 -> twin.hash(k);
            case 1 -> twin.change(i);
            case 2 -> twin.root(k);
            case 3 -> twin.way(i);
            case 4, 5 -> twin.beside(i, j, k);
            case 6 -> twin.isLeft(i, j);
            case 7 -> twin.proves(i);
            case 8 -> twin.count(k);
            default -> put();
        }
    }

    private void put() {
        long v = chance.nextInt(3) == 0 ? chance.nextInt(3) : chance.nextLong();
        twin.put(v, chance.nextInt(2) == 0 ? 1 + chance.nextInt(2) : number(9));
    }

    private int leafNumber() {
        int leaves = twin.leaves();
        return chance.nextInt(4) == 0 ? leaves - 2 + chance.nextInt(4) : number(leaves + 1);
    }

    private int number(int below) {
        return chance.nextInt(12) == 0 ? ODD_NUMBERS[chance.nextInt(ODD_NUMBERS.length)] : chance.nextInt(below);
    }
}
