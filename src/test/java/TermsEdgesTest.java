/** The sentences of the section "Terms" that name an edge, each with ids worked out here by H. */
public final class TermsEdgesTest {
    private static final Due due = new Due();

    public static void main(String[] args) {
        tapeIsNeverLonger();
        leavesAreNeverMore();
        leafOfNoBytes();
        leafOfMostBytes();
        oneLeafIsTheRoot();
        twoSideBySide();
        lastOfThreeStays();
        lastOfFiveStaysTwice();
        lastOfSixPairsOnceAndStays();
        lastOfSevenStaysAndPairs();
        lastOfSixtyFiveStaysSixTimes();
        noLeavesNoRoot();
        wayOfTheLeafThatStays();
        wayHasTheOtherOneOnItsSide();
        due.end();
    }

    private static void tapeIsNeverLonger() {
        due.by("There is a TAPE of up to 150 bytes");
        Twin x = new Twin(due, "single bytes");
        for (int n = 1; n <= 150; n++) {
            due.is("byte " + n, x.put(n, 1), true);
        }
        due.is("byte 151", x.put(151, 1), false);
        due.is("bytes", x.count(0), 150);
    }

    private static void leavesAreNeverMore() {
        due.by("LEAVES 0, 1, .. (at most 100)");
        Twin x = new Twin(due, "empty leaves");
        for (int i = 0; i < 100; i++) {
            due.is("leaf " + i, x.add(), i);
        }
        due.is("leaf 100", x.add(), -1);
        due.is("leaves", x.count(1), 100);
        due.is("way of leaf 99", x.way(99), 4);
        due.is("way of leaf 100", x.way(100), -1);
    }

    private static void leafOfNoBytes() {
        due.by("A leaf's id is H(0, its bytes).");
        RootDesk x = new RootDesk();
        x.add();
        // SHA-256 of the one byte 0, as it is known elsewhere.
        long[] id = {0x6e340b9cffb37a98L, 0x9ca544e6bb780a2cL, 0x78901d3fb3373876L, 0x8511a30617afa01dL};
        for (int k = 0; k < 4; k++) {
            due.is("an empty leaf: root(" + k + ")", x.root(k), id[k]);
        }
    }

    private static void leafOfMostBytes() {
        due.by("rows of up to 150 bytes each");
        RootDesk x = new RootDesk();
        byte[] row = new byte[150];
        for (int at = 0; at < 150; at++) {
            row[at] = (byte) (255 - at);
            x.put(255 - at, 1);
        }
        x.add();
        rootIs("a leaf of 150 bytes", x, Sha.leafId(row));
        due.is("its bytes", x.count(3), 150);
    }

    private static void oneLeafIsTheRoot() {
        due.by("until there is one: the ROOT");
        RootDesk x = withByteLeaves(1);
        rootIs("one leaf", x, id(0));
        due.is("levels", x.count(2), 1);
        due.is("its way", x.way(0), 0);
    }

    private static void twoSideBySide() {
        due.by("of a level two side by side become H(1, first, second) in the next one");
        rootIs("two leaves", withByteLeaves(2), idOver(0, 2));
        rootIs("four leaves", withByteLeaves(4), Sha.pairId(idOver(0, 2), idOver(2, 2)));
        rootIs("64 leaves", withByteLeaves(64), idOver(0, 64));
    }

    private static void lastOfThreeStays() {
        due.by("the last one of an odd number stays as it is");
        rootIs("three leaves", withByteLeaves(3), Sha.pairId(idOver(0, 2), id(2)));
    }

    private static void lastOfFiveStaysTwice() {
        due.by("the last one of an odd number stays as it is, until there is one");
        rootIs("five leaves", withByteLeaves(5), Sha.pairId(idOver(0, 4), id(4)));
    }

    private static void lastOfSixPairsOnceAndStays() {
        due.by("the last one of an odd number (of pairs) stays as it is");
        rootIs("six leaves", withByteLeaves(6), Sha.pairId(idOver(0, 4), idOver(4, 2)));
    }

    private static void lastOfSevenStaysAndPairs() {
        due.by("the last one of an odd number stays as it is (and has one beside it in the next level)");
        byte[] right = Sha.pairId(idOver(4, 2), id(6));
        rootIs("seven leaves", withByteLeaves(7), Sha.pairId(idOver(0, 4), right));
    }

    private static void lastOfSixtyFiveStaysSixTimes() {
        due.by("the last one of an odd number stays as it is (six levels up)");
        RootDesk x = withByteLeaves(65);
        rootIs("65 leaves", x, Sha.pairId(idOver(0, 64), id(64)));
        due.is("levels", x.count(2), 8);
    }

    private static void noLeavesNoRoot() {
        due.by("without leaves it is 32 bytes 0");
        RootDesk x = new RootDesk();
        rootIs("a new object", x, new byte[32]);
        x.put(-1, 8);
        rootIs("with a tape", x, new byte[32]);
        x.add();
        x.add();
        x.drop();
        x.drop();
        rootIs("after the last leaf went", x, new byte[32]);
        x.drop();
        rootIs("after a drop that was refused", x, new byte[32]);
        x.add();
        rootIs("with a leaf again", x, Sha.leafId(new byte[0]));
    }

    private static void wayOfTheLeafThatStays() {
        due.by("(A level where it stays as it is gives nothing.)");
        wayIs("last of 3", withByteLeaves(3), 2, idOver(0, 2));
        wayIs("last of 5", withByteLeaves(5), 4, idOver(0, 4));
        wayIs("last of 6", withByteLeaves(6), 5, id(4), idOver(0, 4));
        wayIs("last of 7", withByteLeaves(7), 6, idOver(4, 2), idOver(0, 4));
        wayIs("last of 65", withByteLeaves(65), 64, idOver(0, 64));
        wayIs("last of 97", withByteLeaves(97), 96, idOver(64, 32), idOver(0, 64));
    }

    private static void wayHasTheOtherOneOnItsSide() {
        due.by("that one's id, and whether it stands LEFT or right of it");
        RootDesk x = withByteLeaves(8);
        wayIs("last of 8", x, 7, id(6), idOver(4, 2), idOver(0, 4));
        int[][] left = {{0, 0, 0}, {1, 0, 0}, {0, 1, 0}, {1, 1, 0}, {0, 0, 1}, {1, 0, 1}, {0, 1, 1}, {1, 1, 1}};
        for (int i = 0; i < 8; i++) {
            for (int j = 0; j < 3; j++) {
                due.is("8 leaves: isLeft(" + i + ", " + j + ")", x.isLeft(i, j), left[i][j]);
            }
        }
        RootDesk five = withByteLeaves(5);
        byte[][] right = {id(1), idOver(2, 2), id(4)};
        for (int j = 0; j < 3; j++) {
            due.is("5 leaves: beside(0, " + j + ", 1)", five.beside(0, j, 1), Sha.part(right[j], 1));
            due.is("5 leaves: isLeft(0, " + j + ")", five.isLeft(0, j), 0);
        }
    }

    private static void rootIs(String when, RootDesk x, byte[] id) {
        for (int k = 0; k < 4; k++) {
            due.is(when + ": root(" + k + ")", x.root(k), Sha.part(id, k));
        }
    }

    /** For a last leaf: all that is beside it stands left of it. */
    private static void wayIs(String when, RootDesk x, int i, byte[]... ids) {
        due.is(when + ": way", x.way(i), ids.length);
        for (int j = 0; j < ids.length; j++) {
            due.is(when + ": isLeft " + j, x.isLeft(i, j), 1);
            for (int k = 0; k < 4; k++) {
                due.is(when + ": beside " + j + ", " + k, x.beside(i, j, k), Sha.part(ids[j], k));
            }
        }
        due.is(when + ": isLeft behind the way", x.isLeft(i, ids.length), -1);
        due.is(when + ": beside behind the way", x.beside(i, ids.length, 0), 0);
    }

    private static RootDesk withByteLeaves(int n) {
        RootDesk x = new RootDesk();
        for (int i = 0; i < n; i++) {
            x.put(i, 1);
            x.add();
        }
        return x;
    }

    private static byte[] id(int i) {
        return Sha.leafId(new byte[] {(byte) i});
    }

    /** The id over that many leaves, a power of two, from leaf i on. */
    private static byte[] idOver(int i, int many) {
        if (many == 1) {
            return id(i);
        }
        return Sha.pairId(idOver(i, many / 2), idOver(i + many / 2, many / 2));
    }
}
