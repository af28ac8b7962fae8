/** A RootDesk and a PlainDesk that get the same calls; each answer is compared before it is handed on. */
final class Twin {
    /** The document promises nothing after that many. */
    private static final int CALL_LIMIT = 512;
    private static final int LONGEST_WAY = 7;

    private final Due due;
    private final String name;
    private final RootDesk desk = new RootDesk();
    private final PlainDesk plain = new PlainDesk();
    private int calls;

    Twin(Due due, String name) {
        this.due = due;
        this.name = name;
    }

    static Twin withLeaves(Due due, int n) {
        Twin x = new Twin(due, n + " leaves");
        x.addLeaves(n);
        return x;
    }

    static Twin withTape(Due due, int n) {
        Twin x = new Twin(due, "a tape of " + n);
        x.putMany(n);
        return x;
    }

    boolean put(long v, int n) {
        boolean answer = desk.put(v, n);
        compare("put(" + v + ", " + n + ")", answer ? 1 : 0, plain.put(v, n) ? 1 : 0);
        return answer;
    }

    long hash(int k) {
        long answer = desk.hash(k);
        compare("hash(" + k + ")", answer, plain.hash(k));
        return answer;
    }

    int add() {
        int answer = desk.add();
        compare("add()", answer, plain.add());
        return answer;
    }

    boolean change(int i) {
        boolean answer = desk.change(i);
        compare("change(" + i + ")", answer ? 1 : 0, plain.change(i) ? 1 : 0);
        return answer;
    }

    int drop() {
        int answer = desk.drop();
        compare("drop()", answer, plain.drop());
        return answer;
    }

    long root(int k) {
        long answer = desk.root(k);
        compare("root(" + k + ")", answer, plain.root(k));
        return answer;
    }

    int way(int i) {
        int answer = desk.way(i);
        compare("way(" + i + ")", answer, plain.way(i));
        return answer;
    }

    long beside(int i, int j, int k) {
        long answer = desk.beside(i, j, k);
        compare("beside(" + i + ", " + j + ", " + k + ")", answer, plain.beside(i, j, k));
        return answer;
    }

    int isLeft(int i, int j) {
        int answer = desk.isLeft(i, j);
        compare("isLeft(" + i + ", " + j + ")", answer, plain.isLeft(i, j));
        return answer;
    }

    int proves(int i) {
        int answer = desk.proves(i);
        compare("proves(" + i + ")", answer, plain.proves(i));
        return answer;
    }

    int count(int what) {
        int answer = desk.count(what);
        compare("count(" + what + ")", answer, plain.count(what));
        return answer;
    }

    /** The number of leaves, without a call of the desk. */
    int leaves() {
        return plain.count(1);
    }

    void putMany(int n) {
        for (int left = n; left > 0; left -= 8) {
            put(0x0123456789abcdefL * left, Math.min(8, left));
        }
    }

    /** Puts the bytes of which addLeaves makes leaf i. */
    void putLeaf(int i) {
        put(0x5500000000000000L + i, leafLength(i));
    }

    static int leafLength(int i) {
        return 1 + i % 8;
    }

    void addLeaves(int n) {
        for (int i = 0; i < n; i++) {
            putLeaf(i);
            add();
        }
    }

    void askCounts(int tape, int leaves, int levels, int bytes) {
        due.is(name + ", call " + calls + ": count(0)", count(0), tape);
        due.is(name + ", call " + calls + ": count(1)", count(1), leaves);
        due.is(name + ", call " + calls + ": count(2)", count(2), levels);
        due.is(name + ", call " + calls + ": count(3)", count(3), bytes);
    }

    /** The tape and the root, in twelve calls. */
    void askState() {
        for (int k = 0; k < 4; k++) {
            hash(k);
            root(k);
            count(k);
        }
    }

    /** All that leaf i answers, in at most 42 calls. */
    void askWay(int i) {
        way(i);
        proves(i);
        for (int j = 0; j <= LONGEST_WAY; j++) {
            isLeft(i, j);
            for (int k = 0; k < 4; k++) {
                beside(i, j, k);
            }
        }
    }

    private void compare(String call, long got, long want) {
        calls++;
        if (calls > CALL_LIMIT) {
            throw new IllegalStateException(name + ": the test asks more than " + CALL_LIMIT + " calls");
        }
        due.is(name + ", call " + calls + ": " + call, got, want);
    }
}
