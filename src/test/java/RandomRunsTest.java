import java.util.Random;

/** Promises 1 to 12 at once: runs of 512 calls, made from a seed, against the plain desk. */
public final class RandomRunsTest {
    private static final int RUNS = 240;
    private static final int CALLS = 512;
    private static final int[] ODD_NUMBERS = {
        Integer.MIN_VALUE, Integer.MIN_VALUE + 1, -101, -2, -1, 4, 5, 8, 9, 100, 101, 150, 202,
        1 << 29, 1 << 30, Integer.MAX_VALUE - 1, Integer.MAX_VALUE
    };

    private final Due due;
    private final Random chance;
    private final String run;
    private final int growth;
    private final RootDesk desk = new RootDesk();
    private final PlainDesk plain = new PlainDesk();

    private RandomRunsTest(Due due, int seed) {
        this.due = due;
        this.chance = new Random(seed);
        this.run = "run " + seed + " ";
        this.growth = seed % 4;
    }

    public static void main(String[] args) {
        Due due = new Due();
        for (int seed = 0; seed < RUNS; seed++) {
            RandomRunsTest test = new RandomRunsTest(due, seed);
            for (int call = 0; call < CALLS; call++) {
                test.oneCall();
            }
        }
        due.end();
    }

    private void oneCall() {
        int kind = chance.nextInt(100);
        int addsBelow = new int[] {12, 25, 45, 70}[growth];
        if (kind < addsBelow) {
            if (chance.nextInt(3) > 0) {
                due.is(run + "add()", desk.add(), plain.add());
            } else {
                put();
            }
        } else if (kind < addsBelow + 6) {
            due.is(run + "drop()", desk.drop(), plain.drop());
        } else {
            otherCall();
        }
    }

    private void otherCall() {
        int i = leafNumber();
        int j = number(8);
        int k = number(4);
        switch (chance.nextInt(11)) {
            case 0 -> due.is(run + "hash(" + k + ")", desk.hash(k), plain.hash(k));
            case 1 -> due.is(run + "change(" + i + ")", desk.change(i), plain.change(i));
            case 2 -> due.is(run + "root(" + k + ")", desk.root(k), plain.root(k));
            case 3 -> due.is(run + "way(" + i + ")", desk.way(i), plain.way(i));
            case 4, 5 -> due.is(run + "beside(" + i + ", " + j + ", " + k + ")", desk.beside(i, j, k), plain.beside(i, j, k));
            case 6 -> due.is(run + "isLeft(" + i + ", " + j + ")", desk.isLeft(i, j), plain.isLeft(i, j));
            case 7 -> due.is(run + "proves(" + i + ")", desk.proves(i), plain.proves(i));
            case 8 -> due.is(run + "count(" + k + ")", desk.count(k), plain.count(k));
            default -> put();
        }
    }

    private void put() {
        long v = chance.nextInt(3) == 0 ? chance.nextInt(3) : chance.nextLong();
        int n = chance.nextInt(2) == 0 ? 1 + chance.nextInt(2) : number(9);
        due.is(run + "put(" + v + ", " + n + ")", desk.put(v, n), plain.put(v, n));
    }

    private int leafNumber() {
        int leaves = plain.count(1);
        return chance.nextInt(4) == 0 ? leaves - 2 + chance.nextInt(4) : number(leaves + 1);
    }

    private int number(int below) {
        return chance.nextInt(12) == 0 ? ODD_NUMBERS[chance.nextInt(ODD_NUMBERS.length)] : chance.nextInt(below);
    }
}
