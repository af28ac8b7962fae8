/** The sentences of promises 7 to 12 that name an edge. */
public final class AnswerEdgesTest {
    private static final int MIN = Integer.MIN_VALUE;
    private static final int MAX = Integer.MAX_VALUE;
    private static final int[] SIZES = {0, 1, 2, 3, 5, 64, 65, 99, 100};

    private static final Due due = new Due();

    public static void main(String[] args) {
        partsOfTheRoot();
        noSuchPartOfTheRoot();
        lengthsOfWays();
        wayOfNoSuchLeaf();
        idsOnTheWayFrom0();
        noSuchIdOnTheWay();
        besideNoSuchLeaf();
        noSuchPartOfTheIdBeside();
        sidesOnTheWay();
        noSuchSide();
        sideOfNoSuchLeaf();
        provesLeavesTheTape();
        provesTheOnlyLeaf();
        provesAnEmptyAndAFullLeaf();
        provesEqualLeaves();
        provesOnlyALeaf();
        provesNoSuchLeaf();
        countOfTheTape();
        countOfLeaves();
        countOfLevels();
        countOfBytesOfLeaves();
        countOfAnotherWhat();
        due.end();
    }

    private static void partsOfTheRoot() {
        due.by("Eight bytes of the root from byte 8 k on");
        RootDesk x = new RootDesk();
        x.add();
        due.is("root(0)", x.root(0), 0x6e340b9cffb37a98L);
        due.is("root(1)", x.root(1), 0x9ca544e6bb780a2cL);
        due.is("root(2)", x.root(2), 0x78901d3fb3373876L);
        due.is("root(3)", x.root(3), 0x8511a30617afa01dL);
    }

    private static void noSuchPartOfTheRoot() {
        due.by("root: 0 if k is not 0 .. 3");
        for (int n : SIZES) {
            Twin x = Twin.withLeaves(due, n);
            for (int k : Odd.PARTS) {
                due.is(n + " leaves: root(" + k + ")", x.root(k), 0);
            }
        }
    }

    private static void lengthsOfWays() {
        due.by("How many ids the way of leaf i has");
        int[][] firstLastAndLength = {
            {1, 0, 0, 0}, {2, 0, 0, 1}, {2, 1, 1, 1}, {3, 0, 1, 2}, {3, 2, 2, 1}, {4, 0, 3, 2}, {5, 0, 3, 3},
            {5, 4, 4, 1}, {64, 0, 63, 6}, {65, 0, 63, 7}, {65, 64, 64, 1}, {100, 0, 63, 7}, {100, 64, 95, 7},
            {100, 96, 99, 4}, {99, 96, 97, 4}, {99, 98, 98, 3}
        };
        for (int[] row : firstLastAndLength) {
            Twin x = Twin.withLeaves(due, row[0]);
            for (int i = row[1]; i <= row[2]; i++) {
                due.is(row[0] + " leaves: way(" + i + ")", x.way(i), row[3]);
            }
        }
    }

    private static void wayOfNoSuchLeaf() {
        due.by("way: -1 if there is no such leaf");
        for (int n : SIZES) {
            Twin x = Twin.withLeaves(due, n);
            due.is(n + " leaves: way(" + n + ")", x.way(n), -1);
            for (int i : Odd.LEAVES) {
                due.is(n + " leaves: way(" + i + ")", x.way(i), -1);
            }
        }
    }

    private static void idsOnTheWayFrom0() {
        due.by("Eight bytes from byte 8 k on of the j-th id (from 0) on the way of leaf i");
        RootDesk x = new RootDesk();
        x.add();
        x.put(1, 1);
        x.add();
        byte[] second = Sha.leafId(new byte[] {1});
        for (int k = 0; k < 4; k++) {
            due.is("two leaves: beside(0, 0, " + k + ")", x.beside(0, 0, k), Sha.part(second, k));
            due.is("two leaves: beside(1, 0, " + k + ")", x.beside(1, 0, k), Sha.part(Sha.leafId(new byte[0]), k));
        }
        x.add();
        byte[] pair = Sha.pairId(Sha.leafId(new byte[0]), second);
        for (int k = 0; k < 4; k++) {
            due.is("three leaves: beside(2, 0, " + k + ")", x.beside(2, 0, k), Sha.part(pair, k));
        }
    }

    private static void noSuchIdOnTheWay() {
        due.by("beside: 0 if there is none (no j-th)");
        for (int n : SIZES) {
            Twin x = Twin.withLeaves(due, n);
            for (int i : new int[] {0, n / 2, n - 1}) {
                due.is(n + " leaves: beside(" + i + ", way, 0)", x.beside(i, x.way(i), 0), 0);
                for (int j : Odd.STEPS) {
                    due.is(n + " leaves: beside(" + i + ", " + j + ", 1)", x.beside(i, j, 1), 0);
                }
            }
        }
    }

    private static void besideNoSuchLeaf() {
        due.by("beside: 0 if there is none (no such leaf)");
        for (int n : SIZES) {
            Twin x = Twin.withLeaves(due, n);
            due.is(n + " leaves: beside(" + n + ", 0, 0)", x.beside(n, 0, 0), 0);
            for (int i : Odd.LEAVES) {
                for (int j : new int[] {-1, 0, 1, 6}) {
                    due.is(n + " leaves: beside(" + i + ", " + j + ", 2)", x.beside(i, j, 2), 0);
                }
            }
        }
    }

    private static void noSuchPartOfTheIdBeside() {
        due.by("beside: 0 if k is not 0 .. 3");
        for (int n : SIZES) {
            Twin x = Twin.withLeaves(due, n);
            for (int k : Odd.PARTS) {
                due.is(n + " leaves: beside(0, 0, " + k + ")", x.beside(0, 0, k), 0);
                due.is(n + " leaves: beside(1, 0, " + k + ")", x.beside(1, 0, k), 0);
                due.is(n + " leaves: beside(last, 0, " + k + ")", x.beside(n - 1, 0, k), 0);
            }
        }
    }

    private static void sidesOnTheWay() {
        due.by("Whether the j-th id on the way of leaf i stands left (1) or right (0) of it");
        Twin x = Twin.withLeaves(due, 100);
        for (int j = 0; j < 7; j++) {
            due.is("isLeft(0, " + j + ")", x.isLeft(0, j), 0);
            due.is("isLeft(63, " + j + ")", x.isLeft(63, j), j < 6 ? 1 : 0);
            due.is("isLeft(64, " + j + ")", x.isLeft(64, j), j < 6 ? 0 : 1);
        }
        for (int j = 0; j < 4; j++) {
            due.is("isLeft(99, " + j + ")", x.isLeft(99, j), 1);
        }
        due.is("isLeft(98, 0)", x.isLeft(98, 0), 0);
        due.is("isLeft(96, 1)", x.isLeft(96, 1), 0);
        due.is("isLeft(96, 2)", x.isLeft(96, 2), 1);
    }

    private static void noSuchSide() {
        due.by("isLeft: -1 if there is none (no j-th)");
        for (int n : SIZES) {
            Twin x = Twin.withLeaves(due, n);
            for (int i : new int[] {0, n / 2, n - 1}) {
                due.is(n + " leaves: isLeft(" + i + ", way)", x.isLeft(i, x.way(i)), -1);
                for (int j : Odd.STEPS) {
                    due.is(n + " leaves: isLeft(" + i + ", " + j + ")", x.isLeft(i, j), -1);
                }
            }
        }
    }

    private static void sideOfNoSuchLeaf() {
        due.by("isLeft: -1 if there is none (no such leaf)");
        for (int n : SIZES) {
            Twin x = Twin.withLeaves(due, n);
            due.is(n + " leaves: isLeft(" + n + ", 0)", x.isLeft(n, 0), -1);
            for (int i : Odd.LEAVES) {
                for (int j : new int[] {-1, 0, 1, 6}) {
                    due.is(n + " leaves: isLeft(" + i + ", " + j + ")", x.isLeft(i, j), -1);
                }
            }
        }
    }

    private static void provesLeavesTheTape() {
        due.by("the tape (which stays), put in the place of leaf i");
        Twin x = Twin.withLeaves(due, 7);
        x.putLeaf(6);
        for (int i = -1; i <= 7; i++) {
            x.proves(i);
            due.is("count(0) after proves(" + i + ")", x.count(0), Twin.leafLength(6));
        }
        x.askState();
        x.askWay(0);
        x.askWay(6);
        due.is("proves(6) again", x.proves(6), 1);
    }

    private static void provesTheOnlyLeaf() {
        due.by("goes by its way to the root: 1 or 0 (by a way without ids)");
        Twin x = new Twin(due, "one leaf");
        x.put(1, 1);
        x.add();
        due.is("an empty tape", x.proves(0), 0);
        x.put(1, 1);
        due.is("the leaf's bytes", x.proves(0), 1);
        x.put(0, 1);
        due.is("a byte more", x.proves(0), 0);
    }

    private static void provesAnEmptyAndAFullLeaf() {
        due.by("goes by its way to the root: 1 or 0 (an empty and a full tape)");
        Twin x = new Twin(due, "an empty leaf and a full one");
        x.add();
        x.putMany(150);
        x.add();
        due.is("the empty one by an empty tape", x.proves(0), 1);
        due.is("the full one by an empty tape", x.proves(1), 0);
        x.putMany(150);
        due.is("the empty one by a full tape", x.proves(0), 0);
        due.is("the full one by a full tape", x.proves(1), 1);
    }

    private static void provesEqualLeaves() {
        due.by("goes by its way to the root: 1 or 0 (leaves of equal bytes)");
        Twin x = new Twin(due, "equal leaves");
        for (int i = 0; i < 100; i++) {
            x.put(i == 37 ? 2 : 1, 1);
            x.add();
        }
        x.put(1, 1);
        for (int i = 0; i < 100; i++) {
            due.is("proves(" + i + ")", x.proves(i), i == 37 ? 0 : 1);
        }
    }

    private static void provesOnlyALeaf() {
        due.by("A leaf's id is H(0, its bytes). (so the bytes of a pair prove nothing)");
        Twin x = Twin.withLeaves(due, 2);
        x.put(1, 1);
        for (int i = 1; i >= 0; i--) {
            for (int k = 0; k < 4; k++) {
                x.put(x.beside(i, 0, k), 8);
            }
        }
        due.is("H(1, first, second) is the root", x.hash(0), x.root(0));
        due.is("proves(0)", x.proves(0), 0);
        due.is("proves(1)", x.proves(1), 0);
    }

    private static void provesNoSuchLeaf() {
        due.by("proves: -1 if there is no such leaf");
        for (int n : SIZES) {
            Twin x = Twin.withLeaves(due, n);
            due.is(n + " leaves: proves(" + n + ")", x.proves(n), -1);
            for (int i : Odd.LEAVES) {
                due.is(n + " leaves: proves(" + i + ")", x.proves(i), -1);
            }
        }
        Twin gone = Twin.withLeaves(due, 3);
        gone.drop();
        gone.putLeaf(2);
        due.is("proves(2) of the leaf that went", gone.proves(2), -1);
    }

    private static void countOfTheTape() {
        due.by("0 bytes of the tape");
        for (int n : new int[] {0, 1, 8, 149, 150}) {
            due.is("a tape of " + n, Twin.withTape(due, n).count(0), n);
        }
    }

    private static void countOfLeaves() {
        due.by("1 leaves");
        for (int n : SIZES) {
            due.is(n + " leaves", Twin.withLeaves(due, n).count(1), n);
        }
    }

    private static void countOfLevels() {
        due.by("2 levels (0 without leaves; 1 with one)");
        int[] most = {0, 1, 2, 4, 8, 16, 32, 64, 100};
        int levels = 0;
        RootDesk x = new RootDesk();
        for (int n = 0; n <= 100; n++) {
            levels += n > most[levels] ? 1 : 0;
            due.is(n + " leaves", x.count(2), levels);
            x.add();
        }
        RootDesk gone = new RootDesk();
        gone.add();
        gone.drop();
        due.is("after the last leaf went", gone.count(2), 0);
    }

    private static void countOfBytesOfLeaves() {
        due.by("3 bytes of all leaves");
        Twin x = new Twin(due, "full leaves");
        for (int i = 0; i < 20; i++) {
            x.putMany(150);
            due.is("a tape is no leaf", x.count(3), 150 * i);
            x.add();
        }
        x.put(1, 1);
        x.change(3);
        due.is("a short one for a full one", x.count(3), 2851);
        x.change(3);
        due.is("an empty one for a short one", x.count(3), 2850);
        x.drop();
        due.is("without the last", x.count(3), 2700);
        Twin gone = Twin.withLeaves(due, 9);
        for (int n = 9; n > 0; n--) {
            gone.drop();
        }
        due.is("after all went", gone.count(3), 0);
    }

    private static void countOfAnotherWhat() {
        due.by("-1 for another what");
        for (int n : SIZES) {
            Twin x = Twin.withLeaves(due, n);
            for (int what : new int[] {4, 5, 8, 256, 257, 1 << 30, MAX, MIN, MIN + 1, -4, -3, -2, -1}) {
                due.is(n + " leaves: count(" + what + ")", x.count(what), -1);
            }
        }
    }
}
