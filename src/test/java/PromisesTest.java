/** Each promise by itself: ordinary inputs, the edges that the document names, and wrong inputs. */
public final class PromisesTest {
    private static final int MIN = Integer.MIN_VALUE;
    private static final int MAX = Integer.MAX_VALUE;
    private static final int[] NO_PARTS = {MIN, -1, 4, 5, 1 << 29, 1 << 30, MAX};

    /** SHA-256 of no bytes, and of "abc", as the standard prints them. */
    private static final long[] EMPTY_HASH = {
        0xe3b0c44298fc1c14L, 0x9afbf4c8996fb924L, 0x27ae41e4649b934cL, 0xa495991b7852b855L
    };
    private static final long[] ABC_HASH = {
        0xba7816bf8f01cfeaL, 0x414140de5dae2223L, 0xb00361a396177a9cL, 0xb410ff61f20015adL
    };

    private static final Due due = new Due();

    public static void main(String[] args) {
        promise1NewObject();
        promise2Put();
        promise2PutOrder();
        promise3Hash();
        promise3HashOfEachLength();
        promise4Add();
        promise5Change();
        promise6Drop();
        promise6DropDownFromFull();
        promise7Root();
        promises8To11EachWay();
        promises8To10WrongInputs();
        promise11Proves();
        promise12Count();
        due.end();
    }

    private static void promise1NewObject() {
        RootDesk x = new RootDesk();
        counts("new", x, 0, 0, 0, 0);
        for (int k = 0; k < 4; k++) {
            due.is("new: hash(" + k + ")", x.hash(k), EMPTY_HASH[k]);
            due.is("new: root(" + k + ")", x.root(k), 0);
        }
        due.is("new: drop()", x.drop(), -1);
        due.is("new: way(0)", x.way(0), -1);

        RootDesk used = new RootDesk();
        used.put(7, 1);
        used.add();
        used.put(7, 1);
        counts("a new one beside a used one", new RootDesk(), 0, 0, 0, 0);
    }

    private static void promise2Put() {
        RootDesk x = new RootDesk();
        for (int n : new int[] {0, -1, 9, 10, MIN, MAX, MAX - 7}) {
            due.is("put(1, " + n + ")", x.put(1, n), false);
        }
        counts("put refused", x, 0, 0, 0, 0);
        for (int n = 1; n <= 8; n++) {
            due.is("put(-1, " + n + ")", x.put(-1, n), true);
            due.is("count(0) after it", x.count(0), n * (n + 1) / 2);
        }
        for (int n = 1; n <= 8; n++) {
            RootDesk full = withTape(150 - n);
            long before = full.hash(0);
            if (n < 8) {
                due.is("put of one too many", full.put(1, n + 1), false);
                due.is("count(0) after it", full.count(0), 150 - n);
                due.is("hash(0) after it", full.hash(0), before);
            }
            due.is("put to the brim", full.put(1, n), true);
            due.is("count(0) at the brim", full.count(0), 150);
            due.is("put(1, 1) at the brim", full.put(1, 1), false);
            due.is("put(1, 8) at the brim", full.put(1, 8), false);
            due.is("put(1, MAX) at the brim", full.put(1, MAX), false);
            due.is("count(0) at the brim", full.count(0), 150);
        }
    }

    private static void promise2PutOrder() {
        RootDesk whole = new RootDesk();
        whole.put(0x0102f3f4f5060708L, 8);
        RootDesk single = new RootDesk();
        for (long b : new long[] {0x01, 0x02, 0xf3, 0xf4, 0xf5, 0x06, 0x07, 0x08}) {
            single.put(0xaaaaaaaaaaaaaa00L | b, 1);
        }
        RootDesk parts = new RootDesk();
        parts.put(0x990102f3L, 3);
        parts.put(0x99f4f5060708L, 5);
        for (int k = 0; k < 4; k++) {
            due.is("hash(" + k + ") of single bytes", single.hash(k), whole.hash(k));
            due.is("hash(" + k + ") of parts", parts.hash(k), whole.hash(k));
        }
    }

    private static void promise3Hash() {
        RootDesk x = new RootDesk();
        x.put(0x616263, 3);
        for (int k = 0; k < 4; k++) {
            due.is("abc: hash(" + k + ")", x.hash(k), ABC_HASH[k]);
        }
        for (int k : NO_PARTS) {
            due.is("abc: hash(" + k + ")", x.hash(k), 0);
        }
        due.is("the tape stays", x.count(0), 3);
        due.is("abc again: hash(3)", x.hash(3), ABC_HASH[3]);
        x.add();
        due.is("after add: hash(0)", x.hash(0), EMPTY_HASH[0]);
        due.is("hash leaves the tree alone", x.root(0), 6962404730672797061L);
    }

    private static void promise3HashOfEachLength() {
        RootDesk x = new RootDesk();
        PlainDesk plain = new PlainDesk();
        for (int n = 0; n <= 150; n++) {
            for (int k = 0; k < 3; k += 2) {
                due.is(n + " bytes: hash(" + k + ")", x.hash(k), plain.hash(k));
            }
            x.put(n * 37 + 200, 1);
            plain.put(n * 37 + 200, 1);
        }
        RootDesk leaf = new RootDesk();
        PlainDesk plainLeaf = new PlainDesk();
        for (int n = 0; n <= 150; n++) {
            putMany(leaf, n);
            putMany(plainLeaf, n);
            leaf.add();
            plainLeaf.add();
            due.is("a leaf of " + n + " bytes: root(1)", leaf.root(1), plainLeaf.root(1));
            due.is("a leaf of " + n + " bytes: count(3)", leaf.count(3), n);
            leaf.drop();
            plainLeaf.drop();
            if (n % 10 == 9) {
                leaf = new RootDesk();
                plainLeaf = new PlainDesk();
            }
        }
    }

    private static void promise4Add() {
        RootDesk x = new RootDesk();
        for (int i = 0; i < 100; i++) {
            if (i % 3 != 0) {
                x.put(i, 2);
            }
            due.is("add() number " + i, x.add(), i);
            due.is("the tape is empty then", x.count(0), 0);
            due.is("leaves then", x.count(1), i + 1);
        }
        x.put(5, 4);
        long root = x.root(0);
        due.is("add() with 100 leaves", x.add(), -1);
        due.is("add() with 100 leaves again", x.add(), -1);
        counts("add refused", x, 4, 100, 8, 132);
        due.is("the root stays", x.root(0), root);
        due.is("drop() of 100", x.drop(), 99);
        due.is("add() with 99 leaves", x.add(), 99);
        counts("add after drop", x, 0, 100, 8, 136 - leafLength(99));
    }

    private static int leafLength(int i) {
        return i % 3 != 0 ? 2 : 0;
    }

    private static void promise5Change() {
        for (int n : new int[] {1, 2, 3, 5, 8, 11, 64, 99, 100}) {
            for (int i : new int[] {0, 1, n / 2, n - 2, n - 1}) {
                if (i < 0 || i >= n) {
                    continue;
                }
                RootDesk x = withLeaves(n);
                PlainDesk plain = plainWithLeaves(n);
                x.put(-3, 5);
                plain.put(-3, 5);
                due.is(n + " leaves: change(" + i + ")", x.change(i), plain.change(i));
                same(n + " leaves, " + i + " changed", x, plain);
                due.is("change(" + i + ") to an empty leaf", x.change(i), plain.change(i));
                same(n + " leaves, " + i + " emptied", x, plain);
                for (int wrong : new int[] {n, n + 1, 100, 101, -1, MIN, MAX}) {
                    x.put(1, 1);
                    plain.put(1, 1);
                    due.is(n + " leaves: change(" + wrong + ")", x.change(wrong), plain.change(wrong));
                }
                same(n + " leaves, change refused or not", x, plain);
            }
        }
        RootDesk none = new RootDesk();
        none.put(1, 1);
        due.is("no leaf: change(0)", none.change(0), false);
        counts("no leaf: change refused", none, 1, 0, 0, 0);
    }

    private static void promise6Drop() {
        RootDesk x = new RootDesk();
        due.is("drop() of none", x.drop(), -1);
        x.put(1, 3);
        due.is("drop() of none with a tape", x.drop(), -1);
        counts("drop refused", x, 3, 0, 0, 0);
        x.add();
        x.put(2, 2);
        x.add();
        x.put(3, 1);
        due.is("drop() of two", x.drop(), 1);
        counts("one dropped", x, 1, 1, 1, 3);
        due.is("the dropped leaf's way", x.way(1), -1);
        due.is("change of the dropped leaf", x.change(1), false);
        due.is("drop() of one", x.drop(), 0);
        counts("both dropped", x, 1, 0, 0, 0);
        due.is("root(0) then", x.root(0), 0);
        due.is("drop() then", x.drop(), -1);
        due.is("add() then", x.add(), 0);
        counts("one more", x, 0, 1, 1, 1);
    }

    private static void promise6DropDownFromFull() {
        RootDesk x = withLeaves(100);
        PlainDesk plain = plainWithLeaves(100);
        for (int n = 100; n > 0; n--) {
            due.is(n + " leaves: drop()", x.drop(), plain.drop());
            due.is((n - 1) + " leaves left: root(0)", x.root(0), plain.root(0));
        }
    }

    private static void promise7Root() {
        for (int n = 0; n <= 100; n++) {
            RootDesk x = withLeaves(n);
            PlainDesk plain = plainWithLeaves(n);
            for (int k = 0; k < 4; k++) {
                due.is(n + " leaves: root(" + k + ")", x.root(k), plain.root(k));
            }
            for (int k : NO_PARTS) {
                due.is(n + " leaves: root(" + k + ")", x.root(k), 0);
            }
            due.is(n + " leaves: count(2)", x.count(2), plain.count(2));
        }
    }

    private static void promises8To11EachWay() {
        for (int n : new int[] {1, 2, 3, 4, 5, 6, 7, 8, 9, 11, 13, 16, 17, 33, 50, 64, 65, 97, 99, 100}) {
            PlainDesk plain = plainWithLeaves(n);
            for (int i = 0; i < n; i++) {
                RootDesk x = withLeaves(n);
                String of = n + " leaves, leaf " + i + ": ";
                due.is(of + "way", x.way(i), plain.way(i));
                for (int j = 0; j <= 8; j++) {
                    due.is(of + "isLeft " + j, x.isLeft(i, j), plain.isLeft(i, j));
                    for (int k = 0; k < 4; k++) {
                        due.is(of + "beside " + j + ", " + k, x.beside(i, j, k), plain.beside(i, j, k));
                    }
                }
                putLeaf(x, i);
                due.is(of + "proves", x.proves(i), 1);
                due.is(of + "proves the next", x.proves(i + 1), i + 1 < n ? 0 : -1);
                due.is(of + "proves the one before", x.proves(i - 1), i > 0 ? 0 : -1);
            }
        }
    }

    private static void promises8To10WrongInputs() {
        for (int n : new int[] {0, 1, 2, 3, 11, 100}) {
            RootDesk x = withLeaves(n);
            for (int i : new int[] {n, n + 1, 100, 128, 202, -1, -2, MIN, MIN + 1, MAX}) {
                if (i < n && i >= 0) {
                    continue;
                }
                due.is(n + " leaves: way(" + i + ")", x.way(i), -1);
                due.is(n + " leaves: isLeft(" + i + ", 0)", x.isLeft(i, 0), -1);
                due.is(n + " leaves: beside(" + i + ", 0, 0)", x.beside(i, 0, 0), 0);
                due.is(n + " leaves: proves(" + i + ")", x.proves(i), -1);
            }
            for (int j : new int[] {-1, MIN, 7, 8, 9, 32, 100, MAX}) {
                due.is(n + " leaves: isLeft(0, " + j + ")", x.isLeft(0, j), -1);
                due.is(n + " leaves: beside(0, " + j + ", 0)", x.beside(0, j, 0), 0);
            }
            for (int k : NO_PARTS) {
                due.is(n + " leaves: beside(0, 0, " + k + ")", x.beside(0, 0, k), 0);
                due.is(n + " leaves: beside(1, 0, " + k + ")", x.beside(1, 0, k), 0);
            }
        }
    }

    private static void promise11Proves() {
        RootDesk x = new RootDesk();
        x.put(1, 1);
        x.add();
        due.is("an empty tape is not the leaf", x.proves(0), 0);
        x.put(1, 1);
        long root = x.root(0);
        due.is("the leaf again", x.proves(0), 1);
        due.is("the leaf again, once more", x.proves(0), 1);
        counts("proves changes nothing", x, 1, 1, 1, 1);
        due.is("the root stays", x.root(0), root);
        x.put(0, 1);
        due.is("a longer row", x.proves(0), 0);
        x.add();
        x.add();
        due.is("an empty leaf by an empty tape", x.proves(2), 1);
        due.is("another by an empty tape", x.proves(1), 0);
        x.change(0);
        due.is("the changed one by an empty tape", x.proves(0), 1);
    }

    private static void promise12Count() {
        RootDesk x = withLeaves(11);
        x.put(1, 6);
        counts("eleven leaves", x, 6, 11, 5, x.count(3));
        due.is("bytes of eleven leaves", x.count(3), plainWithLeaves(11).count(3));
        for (int what : new int[] {-1, 4, 5, MIN, MAX}) {
            due.is("count(" + what + ")", x.count(what), -1);
        }
        int[] levels = {0, 1, 2, 3, 3, 4, 4, 4, 4, 5};
        for (int n = 0; n < levels.length; n++) {
            due.is(n + " leaves: count(2)", withLeaves(n).count(2), levels[n]);
        }
        due.is("64 leaves: count(2)", withLeaves(64).count(2), 7);
        due.is("65 leaves: count(2)", withLeaves(65).count(2), 8);

        RootDesk full = new RootDesk();
        for (int i = 0; i < 20; i++) {
            putMany(full, 150);
            full.add();
        }
        due.is("bytes of twenty full leaves", full.count(3), 3000);
        full.put(1, 1);
        full.change(3);
        due.is("bytes with one short leaf", full.count(3), 2851);
        full.drop();
        due.is("bytes without the last", full.count(3), 2701);
    }

    private static void counts(String when, RootDesk x, int tape, int leaves, int levels, int bytes) {
        due.is(when + ": count(0)", x.count(0), tape);
        due.is(when + ": count(1)", x.count(1), leaves);
        due.is(when + ": count(2)", x.count(2), levels);
        due.is(when + ": count(3)", x.count(3), bytes);
    }

    private static void same(String when, RootDesk x, PlainDesk plain) {
        counts(when, x, plain.count(0), plain.count(1), plain.count(2), plain.count(3));
        for (int k = 0; k < 4; k++) {
            due.is(when + ": root(" + k + ")", x.root(k), plain.root(k));
        }
        due.is(when + ": hash(0)", x.hash(0), plain.hash(0));
    }

    private static RootDesk withTape(int n) {
        RootDesk x = new RootDesk();
        putMany(x, n);
        return x;
    }

    private static void putMany(RootDesk x, int n) {
        for (int left = n; left > 0; left -= 8) {
            x.put(0x0123456789abcdefL * left, Math.min(8, left));
        }
    }

    private static void putMany(PlainDesk x, int n) {
        for (int left = n; left > 0; left -= 8) {
            x.put(0x0123456789abcdefL * left, Math.min(8, left));
        }
    }

    private static void putLeaf(RootDesk x, int i) {
        x.put(0x5500000000000000L + i, 1 + i % 8);
    }

    private static RootDesk withLeaves(int n) {
        RootDesk x = new RootDesk();
        for (int i = 0; i < n; i++) {
            putLeaf(x, i);
            x.add();
        }
        return x;
    }

    private static PlainDesk plainWithLeaves(int n) {
        PlainDesk x = new PlainDesk();
        for (int i = 0; i < n; i++) {
            x.put(0x5500000000000000L + i, 1 + i % 8);
            x.add();
        }
        return x;
    }
}
