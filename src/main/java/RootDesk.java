/**
 * SHA-256 of rows of bytes, and the root of a tree of leaves that come, change and go,
 * with the ways that prove a leaf.
 *
 * <p>Of a leaf only its id and its length are kept: no answer needs its bytes again.
 * Every node of the tree keeps its id, so that a call works on one way alone, and all rows
 * are made once, in the constructor.
 */
public final class RootDesk {
    private static final int TAPE_LIMIT = 150;
    private static final int LEAF_LIMIT = 100;
    private static final int LEVEL_LIMIT = 8;
    private static final int ID_WORDS = 8;

    private static final int LEAF_MARK = 0;
    private static final int PAIR_MARK = 1;

    /** The first node of each level; with 100 leaves the levels are 100, 50, 25, 13, 7, 4, 2, 1 wide. */
    private static final int[] LEVEL_START = {0, 100, 150, 175, 188, 195, 199, 201};

    /** A place behind the last node, for an id that is no part of the tree. */
    private static final int SPARE = 202;

    private final byte[] tape = new byte[TAPE_LIMIT];
    private int tapeLength;

    private final int[] leafLengths = new int[LEAF_LIMIT];
    private int leaves;
    private int leafBytes;

    private final int[] ids = new int[(SPARE + 1) * ID_WORDS];
    private final Digest digest = new Digest();

    public RootDesk() {
        tapeLength = 0;
        leaves = 0;
        leafBytes = 0;
    }

    public boolean put(long v, int n) {
        if (n < 1 || n > 8 || tapeLength + n > TAPE_LIMIT) {
            return false;
        }
        for (int i = 0; i < n; i++) {
            tape[tapeLength + i] = (byte) (v >>> (8 * (n - 1 - i)));
        }
        tapeLength += n;
        return true;
    }

    public long hash(int k) {
        digest.begin();
        digest.takeBytes(tape, tapeLength);
        digest.finishInto(ids, SPARE * ID_WORDS);
        return eightBytes(SPARE, k);
    }

    public int add() {
        if (leaves >= LEAF_LIMIT) {
            return -1;
        }
        int i = leaves;
        leafLengths[i] = 0;
        leaves++;
        moveTapeTo(i);
        return i;
    }

    public boolean change(int i) {
        if (!isLeaf(i)) {
            return false;
        }
        moveTapeTo(i);
        return true;
    }

    public int drop() {
        if (leaves < 1) {
            return -1;
        }
        leaves--;
        leafBytes -= leafLengths[leaves];
        if (leaves > 0) {
            // Only above the leaf that is now the last one can a node have lost its pair.
            refreshAbove(leaves - 1);
        }
        return leaves;
    }

    public long root(int k) {
        if (leaves < 1) {
            return 0L;
        }
        return eightBytes(LEVEL_START[rootLevel()], k);
    }

    public int way(int i) {
        if (!isLeaf(i)) {
            return -1;
        }
        int steps = 0;
        while (steps < LEVEL_LIMIT && levelOfStep(i, steps) >= 0) {
            steps++;
        }
        return steps;
    }

    public long beside(int i, int j, int k) {
        int level = levelOfStep(i, j);
        if (level < 0) {
            return 0L;
        }
        return eightBytes(nodeBeside(level, i >> level), k);
    }

    public int isLeft(int i, int j) {
        int level = levelOfStep(i, j);
        if (level < 0) {
            return -1;
        }
        return (i >> level) & 1;
    }

    public int proves(int i) {
        if (!isLeaf(i)) {
            return -1;
        }
        makeLeafId(SPARE);
        int width = leaves;
        for (int level = 0; level < LEVEL_LIMIT; level++) {
            int index = i >> level;
            if (hasOneBeside(index, width)) {
                int other = nodeBeside(level, index);
                boolean otherIsLeft = (index & 1) == 1;
                join(otherIsLeft ? other : SPARE, otherIsLeft ? SPARE : other, SPARE);
            }
            width = widthAbove(width);
        }
        return sameIds(SPARE, LEVEL_START[rootLevel()]) ? 1 : 0;
    }

    public int count(int what) {
        switch (what) {
            case 0:
                return tapeLength;
            case 1:
                return leaves;
            case 2:
                return leaves < 1 ? 0 : rootLevel() + 1;
            case 3:
                return leafBytes;
            default:
                return -1;
        }
    }

    private boolean isLeaf(int i) {
        return i >= 0 && i < leaves;
    }

    private void moveTapeTo(int i) {
        makeLeafId(i);
        leafBytes += tapeLength - leafLengths[i];
        leafLengths[i] = tapeLength;
        tapeLength = 0;
        refreshAbove(i);
    }

    private void makeLeafId(int into) {
        digest.begin();
        digest.takeByte(LEAF_MARK);
        digest.takeBytes(tape, tapeLength);
        digest.finishInto(ids, into * ID_WORDS);
    }

    private void join(int first, int second, int into) {
        digest.begin();
        digest.takeByte(PAIR_MARK);
        digest.takeId(ids, first * ID_WORDS);
        digest.takeId(ids, second * ID_WORDS);
        digest.finishInto(ids, into * ID_WORDS);
    }

    private void refreshAbove(int i) {
        int width = leaves;
        for (int level = 0; level + 1 < LEVEL_LIMIT && width > 1; level++) {
            int index = i >> level;
            int first = LEVEL_START[level] + (index & ~1);
            int above = LEVEL_START[level + 1] + (index >> 1);
            if (hasOneBeside(index, width)) {
                join(first, first + 1, above);
            } else {
                copyId(first, above);
            }
            width = widthAbove(width);
        }
    }

    private void copyId(int from, int into) {
        for (int w = 0; w < ID_WORDS; w++) {
            ids[into * ID_WORDS + w] = ids[from * ID_WORDS + w];
        }
    }

    private boolean sameIds(int one, int other) {
        for (int w = 0; w < ID_WORDS; w++) {
            if (ids[one * ID_WORDS + w] != ids[other * ID_WORDS + w]) {
                return false;
            }
        }
        return true;
    }

    /** 0 for a k that is not 0 .. 3, as each call that answers bytes of an id wants it. */
    private long eightBytes(int node, int k) {
        if (k < 0 || k > 3) {
            return 0L;
        }
        int at = node * ID_WORDS + 2 * k;
        return ((long) ids[at] << 32) | (ids[at + 1] & 0xFFFFFFFFL);
    }

    /** The level where the way of leaf i has its j-th id; -1 if there is none. */
    private int levelOfStep(int i, int j) {
        if (!isLeaf(i) || j < 0) {
            return -1;
        }
        int step = 0;
        int width = leaves;
        for (int level = 0; level < LEVEL_LIMIT; level++) {
            if (hasOneBeside(i >> level, width)) {
                if (step == j) {
                    return level;
                }
                step++;
            }
            width = widthAbove(width);
        }
        return -1;
    }

    private int rootLevel() {
        int level = 0;
        int width = leaves;
        while (width > 1 && level + 1 < LEVEL_LIMIT) {
            width = widthAbove(width);
            level++;
        }
        return level;
    }

    private static int nodeBeside(int level, int index) {
        return LEVEL_START[level] + (index ^ 1);
    }

    private static boolean hasOneBeside(int index, int width) {
        return (index ^ 1) < width;
    }

    private static int widthAbove(int width) {
        return (width + 1) >> 1;
    }

    /** One SHA-256 at a time: begin, take what is to be put together, finish. */
    private static final class Digest {
        private static final int BLOCK_BYTES = 64;
        private static final int LENGTH_AT = 56;

        /** Three blocks: the longest row, a mark and 150 bytes, and its padding fit in. */
        private static final int MESSAGE_LIMIT = 192;

        private static final int[] FIRST_STATE = {
            0x6a09e667, 0xbb67ae85, 0x3c6ef372, 0xa54ff53a,
            0x510e527f, 0x9b05688c, 0x1f83d9ab, 0x5be0cd19
        };

        private static final int[] ROUND_WORDS = {
            0x428a2f98, 0x71374491, 0xb5c0fbcf, 0xe9b5dba5,
            0x3956c25b, 0x59f111f1, 0x923f82a4, 0xab1c5ed5,
            0xd807aa98, 0x12835b01, 0x243185be, 0x550c7dc3,
            0x72be5d74, 0x80deb1fe, 0x9bdc06a7, 0xc19bf174,
            0xe49b69c1, 0xefbe4786, 0x0fc19dc6, 0x240ca1cc,
            0x2de92c6f, 0x4a7484aa, 0x5cb0a9dc, 0x76f988da,
            0x983e5152, 0xa831c66d, 0xb00327c8, 0xbf597fc7,
            0xc6e00bf3, 0xd5a79147, 0x06ca6351, 0x14292967,
            0x27b70a85, 0x2e1b2138, 0x4d2c6dfc, 0x53380d13,
            0x650a7354, 0x766a0abb, 0x81c2c92e, 0x92722c85,
            0xa2bfe8a1, 0xa81a664b, 0xc24b8b70, 0xc76c51a3,
            0xd192e819, 0xd6990624, 0xf40e3585, 0x106aa070,
            0x19a4c116, 0x1e376c08, 0x2748774c, 0x34b0bcb5,
            0x391c0cb3, 0x4ed8aa4a, 0x5b9cca4f, 0x682e6ff3,
            0x748f82ee, 0x78a5636f, 0x84c87814, 0x8cc70208,
            0x90befffa, 0xa4506ceb, 0xbef9a3f7, 0xc67178f2
        };

        private final byte[] message = new byte[MESSAGE_LIMIT];
        private final int[] schedule = new int[64];
        private final int[] state = new int[ID_WORDS];
        private int length;

        Digest() {
            length = 0;
        }

        void begin() {
            length = 0;
        }

        void takeByte(int b) {
            if (length < MESSAGE_LIMIT) {
                message[length] = (byte) b;
                length++;
            }
        }

        void takeBytes(byte[] row, int n) {
            for (int i = 0; i < n && i < row.length; i++) {
                takeByte(row[i]);
            }
        }

        void takeId(int[] row, int at) {
            if (at < 0 || at + ID_WORDS > row.length) {
                return;
            }
            for (int w = 0; w < ID_WORDS; w++) {
                takeWord(row[at + w]);
            }
        }

        private void takeWord(int word) {
            takeByte(word >>> 24);
            takeByte(word >>> 16);
            takeByte(word >>> 8);
            takeByte(word);
        }

        void finishInto(int[] row, int at) {
            pad();
            for (int w = 0; w < ID_WORDS; w++) {
                state[w] = FIRST_STATE[w];
            }
            for (int from = 0; from + BLOCK_BYTES <= length; from += BLOCK_BYTES) {
                fillSchedule(from);
                mixBlock();
            }
            if (at < 0 || at + ID_WORDS > row.length) {
                return;
            }
            for (int w = 0; w < ID_WORDS; w++) {
                row[at + w] = state[w];
            }
        }

        private void pad() {
            long bits = 8L * length;
            takeByte(0x80);
            for (int i = 0; i < BLOCK_BYTES && length % BLOCK_BYTES != LENGTH_AT; i++) {
                takeByte(0);
            }
            for (int shift = 56; shift >= 0; shift -= 8) {
                takeByte((int) (bits >>> shift));
            }
        }

        private void fillSchedule(int from) {
            for (int t = 0; t < 16; t++) {
                int at = from + 4 * t;
                schedule[t] = (message[at] & 255) << 24 | (message[at + 1] & 255) << 16
                    | (message[at + 2] & 255) << 8 | (message[at + 3] & 255);
            }
            for (int t = 16; t < 64; t++) {
                int far = schedule[t - 15];
                int near = schedule[t - 2];
                int farMix = turn(far, 7) ^ turn(far, 18) ^ (far >>> 3);
                int nearMix = turn(near, 17) ^ turn(near, 19) ^ (near >>> 10);
                schedule[t] = schedule[t - 16] + farMix + schedule[t - 7] + nearMix;
            }
        }

        private void mixBlock() {
            int a = state[0];
            int b = state[1];
            int c = state[2];
            int d = state[3];
            int e = state[4];
            int f = state[5];
            int g = state[6];
            int h = state[7];
            for (int t = 0; t < 64; t++) {
                int choice = (e & f) ^ (~e & g);
                int majority = (a & b) ^ (a & c) ^ (b & c);
                int lower = turn(e, 6) ^ turn(e, 11) ^ turn(e, 25);
                int upper = turn(a, 2) ^ turn(a, 13) ^ turn(a, 22);
                int fresh = h + lower + choice + ROUND_WORDS[t] + schedule[t];
                h = g;
                g = f;
                f = e;
                e = d + fresh;
                d = c;
                c = b;
                b = a;
                a = fresh + upper + majority;
            }
            state[0] += a;
            state[1] += b;
            state[2] += c;
            state[3] += d;
            state[4] += e;
            state[5] += f;
            state[6] += g;
            state[7] += h;
        }

        /** To the right, for n of 1 .. 31. */
        private static int turn(int word, int n) {
            return (word >>> n) | (word << (32 - n));
        }
    }
}
