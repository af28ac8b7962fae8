import java.util.Arrays;

/** The sentences of promises 1 to 3 that name an edge. */
public final class TapeEdgesTest {
    private static final int MIN = Integer.MIN_VALUE;
    private static final int MAX = Integer.MAX_VALUE;

    private static final Due due = new Due();

    public static void main(String[] args) {
        newObjectIsEmpty();
        newObjectIsNotTheOldOne();
        lowestBytesHighestFirst();
        bytesComeBehindTheTape();
        tooFewBytes();
        tooManyBytes();
        tapeBecomesJustFull();
        tapeWouldBeTooLong();
        hashOfTheEmptyTape();
        hashAtTheEdgesOfBlocks();
        hashLeavesTheTape();
        partsOfTheHash();
        noSuchPartOfTheHash();
        due.end();
    }

    private static void newObjectIsEmpty() {
        due.by("An empty tape, no leaves.");
        Twin x = new Twin(due, "a new object");
        x.askCounts(0, 0, 0, 0);
        due.is("add()", x.add(), 0);
        due.is("bytes of the first leaf", x.count(3), 0);
    }

    private static void newObjectIsNotTheOldOne() {
        due.by("RootDesk(): An empty tape, no leaves. (beside an object in use)");
        Twin old = Twin.withLeaves(due, 3);
        old.put(7, 7);
        Twin x = new Twin(due, "a second object");
        x.askCounts(0, 0, 0, 0);
        x.askState();
        x.put(1, 1);
        x.add();
        old.askCounts(7, 3, 3, 6);
        old.askState();
    }

    private static void lowestBytesHighestFirst() {
        due.by("The lowest n bytes of v, the highest of them first");
        long[] values = {0x8182838485868788L, 0, -1, 1, 255, 256, Long.MIN_VALUE, Long.MAX_VALUE, 1L << 32};
        for (long v : values) {
            byte[] eight = new byte[8];
            for (int at = 0; at < 8; at++) {
                eight[7 - at] = (byte) (v >> (8 * at));
            }
            for (int n = 1; n <= 8; n++) {
                RootDesk x = new RootDesk();
                due.is("put(" + v + ", " + n + ")", x.put(v, n), true);
                due.is("count(0) then", x.count(0), n);
                hashIs("put(" + v + ", " + n + ")", x, Arrays.copyOfRange(eight, 8 - n, 8));
            }
        }
    }

    private static void bytesComeBehindTheTape() {
        due.by("come behind the tape: true");
        RootDesk x = new RootDesk();
        x.put(0x010203, 3);
        x.put(0x0405, 2);
        x.put(6, 1);
        hashIs("three puts", x, new byte[] {1, 2, 3, 4, 5, 6});
        x.add();
        x.put(7, 1);
        hashIs("a put after add", x, new byte[] {7});
        x.change(0);
        x.put(8, 1);
        hashIs("a put after change", x, new byte[] {8});
    }

    private static void tooFewBytes() {
        due.by("false if n is not 1 .. 8 (too small)");
        for (int n : new int[] {0, -1, -7, -8, -255, -256, MIN, MIN + 1, MIN + 8}) {
            putIsRefused(Twin.withTape(due, 12), n, 12);
        }
        due.is("put(1, 1)", new RootDesk().put(1, 1), true);
    }

    private static void tooManyBytes() {
        due.by("false if n is not 1 .. 8 (too large)");
        for (int n : new int[] {9, 10, 16, 138, 150, 256, 257, 264, 65537, 1 << 29, MAX - 12, MAX - 11, MAX}) {
            putIsRefused(Twin.withTape(due, 12), n, 12);
        }
        due.is("put(1, 8)", new RootDesk().put(1, 8), true);
    }

    private static void tapeBecomesJustFull() {
        due.by("or there would be more than 150 (just 150 is none too many)");
        for (int n = 1; n <= 8; n++) {
            Twin x = Twin.withTape(due, 150 - n);
            due.is("put of the last " + n, x.put(0x1122334455667788L, n), true);
            due.is("count(0) then", x.count(0), 150);
            x.askState();
        }
    }

    private static void tapeWouldBeTooLong() {
        due.by("or there would be more than 150");
        for (int room = 0; room < 8; room++) {
            for (int n = room + 1; n <= 8; n++) {
                putIsRefused(Twin.withTape(due, 150 - room), n, 150 - room);
            }
        }
        for (int n : new int[] {MIN, -150, -1, 0, 9, MAX - 149, MAX}) {
            putIsRefused(Twin.withTape(due, 150), n, 150);
        }
        Twin x = Twin.withTape(due, 150);
        x.add();
        due.is("put(1, 8) on the tape that add emptied", x.put(1, 8), true);
    }

    private static void putIsRefused(Twin x, int n, int length) {
        due.is(length + " bytes: put(-1, " + n + ")", x.put(-1, n), false);
        due.is("count(0) then", x.count(0), length);
        x.askState();
    }

    private static void hashOfTheEmptyTape() {
        due.by("Eight bytes of H(tape) (of an empty one)");
        hashIs("a new object", new RootDesk(), new byte[0]);
        RootDesk x = new RootDesk();
        x.put(1, 1);
        x.add();
        hashIs("after add", x, new byte[0]);
        x.put(1, 1);
        x.change(0);
        hashIs("after change", x, new byte[0]);
    }

    private static void hashAtTheEdgesOfBlocks() {
        due.by("H(..) is SHA-256 of the bytes put together");
        for (int n : new int[] {54, 55, 56, 57, 62, 63, 64, 65, 118, 119, 120, 121, 126, 127, 128, 129, 149, 150}) {
            RootDesk x = new RootDesk();
            byte[] row = new byte[n];
            for (int at = 0; at < n; at++) {
                row[at] = (byte) (7 * at + n);
                x.put(7 * at + n, 1);
            }
            hashIs(n + " bytes", x, row);
            x.add();
            due.is(n + " bytes and the mark 0: root(2)", x.root(2), Sha.part(Sha.leafId(row), 2));
        }
    }

    private static void hashLeavesTheTape() {
        due.by("H(tape), which stays");
        Twin x = Twin.withTape(due, 150);
        long first = x.hash(1);
        due.is("hash(1) again", x.hash(1), first);
        due.is("count(0)", x.count(0), 150);
        x.hash(4);
        x.hash(-1);
        due.is("hash(1) after parts that are none", x.hash(1), first);
        x.add();
        x.askCounts(0, 1, 1, 150);
        Twin tree = Twin.withLeaves(due, 5);
        tree.put(9, 3);
        tree.hash(0);
        tree.askState();
        tree.askWay(4);
    }

    private static void partsOfTheHash() {
        due.by("from byte 8 k on, the highest first");
        RootDesk x = new RootDesk();
        x.put(0x616263, 3);
        due.is("hash(0)", x.hash(0), 0xba7816bf8f01cfeaL);
        due.is("hash(1)", x.hash(1), 0x414140de5dae2223L);
        due.is("hash(2)", x.hash(2), 0xb00361a396177a9cL);
        due.is("hash(3)", x.hash(3), 0xb410ff61f20015adL);
    }

    private static void noSuchPartOfTheHash() {
        due.by("0 if k is not 0 .. 3");
        RootDesk x = new RootDesk();
        for (int k : Odd.PARTS) {
            due.is("an empty tape: hash(" + k + ")", x.hash(k), 0);
        }
        x.put(0x616263, 3);
        for (int k : Odd.PARTS) {
            due.is("abc: hash(" + k + ")", x.hash(k), 0);
        }
    }

    private static void hashIs(String when, RootDesk x, byte[] row) {
        byte[] want = Sha.of(row);
        for (int k = 0; k < 4; k++) {
            due.is(when + ": hash(" + k + ")", x.hash(k), Sha.part(want, k));
        }
    }
}
