/** Each promise by itself, with ordinary inputs and at every length and size; its edges stand in the tests named so. */
public final class PromisesTest {
    /** SHA-256 of no bytes, and of "abc", as the standard prints them. */
    private static final long[] EMPTY_HASH = {
        0xe3b0c44298fc1c14L, 0x9afbf4c8996fb924L, 0x27ae41e4649b934cL, 0xa495991b7852b855L
    };
    private static final long[] ABC_HASH = {
        0xba7816bf8f01cfeaL, 0x414140de5dae2223L, 0xb00361a396177a9cL, 0xb410ff61f20015adL
    };

    private static final Due due = new Due();

    public static void main(String[] args) {
        promise1NewObject();
        promise2Put();
        promise2PutOrder();
        promise3Hash();
        promise3HashOfEachLength();
        promise3And4LeafOfEachLength();
        promise4Add();
        promise5Change();
        promise6Drop();
        promise6DropDownFromFull();
        promises7And12RootOfEachSize();
        promises8To11EachWay();
        promise11Proves();
        promise12Count();
        due.end();
    }

    private static void promise1NewObject() {
        RootDesk x = new RootDesk();
        for (int k = 0; k < 4; k++) {
            due.is("new: hash(" + k + ")", x.hash(k), EMPTY_HASH[k]);
            due.is("new: root(" + k + ")", x.root(k), 0);
            due.is("new: count(" + k + ")", x.count(k), 0);
        }
    }

    private static void promise2Put() {
        Twin x = new Twin(due, "put of each n");
        for (int n = 1; n <= 8; n++) {
            due.is("put(-1, " + n + ")", x.put(-1, n), true);
            x.askCounts(n * (n + 1) / 2, 0, 0, 0);
        }
    }

    private static void promise2PutOrder() {
        RootDesk whole = new RootDesk();
        whole.put(0x0102f3f4f5060708L, 8);
        RootDesk single = new RootDesk();
        for (long b : new long[] {0x01, 0x02, 0xf3, 0xf4, 0xf5, 0x06, 0x07, 0x08}) {
            single.put(0xaaaaaaaaaaaaaa00L | b, 1);
        }
        RootDesk parts = new RootDesk();
        parts.put(0x990102f3L, 3);
        parts.put(0x99f4f5060708L, 5);
        for (int k = 0; k < 4; k++) {
            due.is("hash(" + k + ") of single bytes", single.hash(k), whole.hash(k));
            due.is("hash(" + k + ") of parts", parts.hash(k), whole.hash(k));
        }
    }

    private static void promise3Hash() {
        RootDesk x = new RootDesk();
        x.put(0x616263, 3);
        for (int k = 0; k < 4; k++) {
            due.is("abc: hash(" + k + ")", x.hash(k), ABC_HASH[k]);
        }
        x.add();
        due.is("after add: hash(0)", x.hash(0), EMPTY_HASH[0]);
        due.is("hash leaves the tree alone", x.root(0), 6962404730672797061L);
    }

    private static void promise3HashOfEachLength() {
        Twin x = new Twin(due, "a tape that grows");
        for (int n = 0; n <= 150; n++) {
            x.hash(0);
            x.hash(2);
            x.put(n * 37 + 200, 1);
        }
    }

    private static void promise3And4LeafOfEachLength() {
        for (int n = 0; n <= 150; n++) {
            Twin x = Twin.withTape(due, n);
            x.add();
            x.askState();
            x.askCounts(0, 1, 1, n);
        }
    }

    private static void promise4Add() {
        Twin x = new Twin(due, "leaves that come");
        for (int i = 0; i < 100; i++) {
            x.putLeaf(i);
            due.is("add() number " + i, x.add(), i);
            due.is("the tape is empty then", x.count(0), 0);
            due.is("leaves then", x.count(1), i + 1);
        }
    }

    private static void promise5Change() {
        for (int n : new int[] {1, 2, 3, 5, 8, 11, 64, 99, 100}) {
            for (int i = 0; i < n; i += 1 + n / 7) {
                Twin x = Twin.withLeaves(due, n);
                x.put(-3, 5);
                due.is(n + " leaves: change(" + i + ")", x.change(i), true);
                x.askState();
                x.askWay(i);
                x.askWay(n - 1);
                x.askWay(0);
            }
        }
    }

    private static void promise6Drop() {
        Twin x = new Twin(due, "two leaves that go");
        x.put(1, 3);
        x.add();
        x.put(2, 2);
        x.add();
        x.put(3, 1);
        due.is("drop() of two", x.drop(), 1);
        x.askCounts(1, 1, 1, 3);
        due.is("drop() of one", x.drop(), 0);
        x.askCounts(1, 0, 0, 0);
        due.is("add() then", x.add(), 0);
        x.askCounts(0, 1, 1, 1);
    }

    private static void promise6DropDownFromFull() {
        Twin x = Twin.withLeaves(due, 100);
        for (int n = 100; n > 0; n--) {
            due.is(n + " leaves: drop()", x.drop(), n - 1);
            x.root(n % 4);
            x.beside(0, x.leaves() > 64 ? 6 : 0, n % 4);
        }
    }

    private static void promises7And12RootOfEachSize() {
        for (int n = 0; n <= 100; n++) {
            Twin.withLeaves(due, n).askState();
        }
    }

    private static void promises8To11EachWay() {
        for (int n : new int[] {1, 2, 3, 4, 5, 6, 7, 8, 9, 11, 13, 16, 17, 33, 50, 64, 65, 97, 99, 100}) {
            for (int i = 0; i < n; i++) {
                Twin x = Twin.withLeaves(due, n);
                x.putLeaf(i);
                x.askWay(i);
                due.is(n + " leaves: leaf " + i + " proves itself", x.proves(i), 1);
                due.is(n + " leaves: leaf " + i + " proves the next", x.proves(i + 1), i + 1 < n ? 0 : -1);
                due.is(n + " leaves: leaf " + i + " proves the one before", x.proves(i - 1), i > 0 ? 0 : -1);
            }
        }
    }

    private static void promise11Proves() {
        Twin x = Twin.withLeaves(due, 5);
        x.put(1, 3);
        due.is("another row", x.proves(2), 0);
        x.change(2);
        x.put(1, 3);
        due.is("the same row as the leaf since its change", x.proves(2), 1);
        x.put(0, 1);
        due.is("a longer row", x.proves(2), 0);
    }

    private static void promise12Count() {
        Twin x = Twin.withLeaves(due, 11);
        x.put(1, 6);
        x.askCounts(6, 11, 5, 42);
        x.change(3);
        x.askCounts(0, 11, 5, 44);
        x.drop();
        x.askCounts(0, 10, 5, 41);
    }
}
