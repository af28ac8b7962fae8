import java.util.List;

/** The sentence "A call that is refused changes nothing.": each kind of it, in each kind of state. */
public final class RefusedCallsTest {
    private static final int MIN = Integer.MIN_VALUE;
    private static final int MAX = Integer.MAX_VALUE;

    /** Leaves and bytes of the tape. */
    private static final int[][] STATES = {
        {0, 0}, {0, 5}, {0, 150}, {1, 0}, {1, 150}, {2, 3}, {3, 143}, {64, 1}, {65, 0}, {99, 150}, {100, 0}, {100, 7}, {100, 150}
    };

    private static final Due due = new Due();

    private interface Call {
        /** Whether it was refused. */
        boolean on(Twin x);
    }

    private record Kind(String name, Call call) { }

    private static final List<Kind> ALWAYS_REFUSED = List.of(
        new Kind("put of no bytes", x -> !x.put(-1, 0)),
        new Kind("put of nine bytes", x -> !x.put(-1, 9)),
        new Kind("put of fewer than none", x -> !x.put(-1, -1) && !x.put(-1, MIN)),
        new Kind("put of very many", x -> !x.put(-1, MAX) && !x.put(-1, MAX - 149)),
        new Kind("change of the leaf behind the last", x -> !x.change(x.leaves())),
        new Kind("change of leaf 100", x -> !x.change(100)),
        new Kind("change of a leaf before the first", x -> !x.change(-1) && !x.change(MIN)),
        new Kind("change of leaf MAX", x -> !x.change(MAX)),
        new Kind("hash and root of no part", x -> x.hash(4) == 0 && x.hash(-1) == 0 && x.root(4) == 0 && x.root(-1) == 0),
        new Kind("way of no leaf", x -> x.way(x.leaves()) == -1 && x.way(-1) == -1),
        new Kind("beside no leaf", x -> x.beside(x.leaves(), 0, 0) == 0 && x.beside(-1, 0, 0) == 0),
        new Kind("beside at no step", x -> x.beside(0, 7, 0) == 0 && x.beside(0, -1, 0) == 0),
        new Kind("isLeft at no step", x -> x.isLeft(0, 7) == -1 && x.isLeft(0, -1) == -1),
        new Kind("proves no leaf", x -> x.proves(x.leaves()) == -1 && x.proves(-1) == -1),
        new Kind("count of another what", x -> x.count(4) == -1 && x.count(-1) == -1));

    private static final Kind PUT_TOO_MUCH = new Kind("put of more than there is room for", x -> !x.put(-1, 8));
    private static final Kind ADD = new Kind("add to a full desk", x -> x.add() == -1);
    private static final Kind DROP = new Kind("drop of none", x -> x.drop() == -1);

    public static void main(String[] args) {
        due.by("A call that is refused changes nothing.");
        for (int[] state : STATES) {
            int leaves = state[0];
            int tape = state[1];
            for (Kind kind : ALWAYS_REFUSED) {
                refuse(kind, leaves, tape);
            }
            if (tape > 142) {
                refuse(PUT_TOO_MUCH, leaves, tape);
            }
            if (leaves == 100) {
                refuse(ADD, leaves, tape);
            }
            if (leaves == 0) {
                refuse(DROP, leaves, tape);
            }
        }
        due.end();
    }

    private static void refuse(Kind kind, int leaves, int tape) {
        Twin x = new Twin(due, leaves + " leaves, a tape of " + tape + ", " + kind.name());
        x.addLeaves(leaves);
        x.putMany(tape);
        due.is(leaves + " leaves, a tape of " + tape + ": refused " + kind.name(), kind.call().on(x), true);
        due.is("bytes of the tape then", x.count(0), tape);
        due.is("leaves then", x.count(1), leaves);
        x.askState();
        x.askWay(0);
        x.askWay(leaves - 1);
        goOn(x, leaves);
    }

    /** What was hidden from the questions would show in what comes of the state. */
    private static void goOn(Twin x, int leaves) {
        x.add();
        x.askState();
        x.askWay(leaves);
        x.put(6, 3);
        x.change(leaves / 2);
        x.askState();
        x.drop();
        x.askState();
        x.askWay(leaves - 2);
    }
}
