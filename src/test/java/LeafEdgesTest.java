/** The sentences of promises 4 to 6 that name an edge. */
public final class LeafEdgesTest {
    private static final Due due = new Due();

    public static void main(String[] args) {
        addTakesAnyTape();
        addEmptiesTheTape();
        addUpToTheHundredth();
        addOfOneTooMany();
        addAfterTheFullDeskLostOne();
        changeTakesAnyTape();
        changeEmptiesTheTape();
        changeOfTheFirstAndTheLast();
        changeToTheSame();
        changeOfNoSuchLeaf();
        changeWithoutLeaves();
        changeOfTheLeafThatWent();
        dropTakesTheLast();
        dropOverTheEdgeOfALevel();
        dropOfTheOnlyOne();
        dropOfNone();
        droppedLeafDoesNotComeBack();
        due.end();
    }

    private static void addTakesAnyTape() {
        due.by("The tape is one more leaf: its number");
        Twin x = new Twin(due, "leaves of many lengths");
        int bytes = 0;
        int[] lengths = {0, 150, 0, 1, 149, 8};
        for (int i = 0; i < lengths.length; i++) {
            x.putMany(lengths[i]);
            bytes += lengths[i];
            due.is("add() of " + lengths[i] + " bytes", x.add(), i);
            due.is("bytes of all leaves then", x.count(3), bytes);
            x.askState();
        }
    }

    private static void addEmptiesTheTape() {
        due.by("The tape (empty then) is one more leaf");
        Twin x = Twin.withTape(due, 150);
        x.add();
        due.is("count(0)", x.count(0), 0);
        due.is("hash(0)", x.hash(0), Sha.part(Sha.of(), 0));
        x.add();
        due.is("bytes of both leaves", x.count(3), 150);
    }

    private static void addUpToTheHundredth() {
        due.by("-1, refused, if there are 100 (but not before)");
        Twin x = Twin.withLeaves(due, 99);
        x.put(1, 1);
        due.is("add() with 99", x.add(), 99);
        due.is("leaves then", x.count(1), 100);
        due.is("the tape then", x.count(0), 0);
        x.askState();
        x.askWay(99);
    }

    private static void addOfOneTooMany() {
        due.by("-1, refused, if there are 100");
        Twin x = Twin.withLeaves(due, 100);
        x.putMany(150);
        int bytes = x.count(3);
        for (int again = 0; again < 3; again++) {
            due.is("add() with 100", x.add(), -1);
            x.askCounts(150, 100, 8, bytes);
            x.askState();
        }
        x.askWay(99);
        x.askWay(100);
    }

    private static void addAfterTheFullDeskLostOne() {
        due.by("-1, refused, if there are 100 (and no longer when one went)");
        Twin x = Twin.withLeaves(due, 100);
        x.put(5, 5);
        x.add();
        due.is("drop()", x.drop(), 99);
        due.is("add() of the tape that stayed", x.add(), 99);
        due.is("add() then", x.add(), -1);
        x.askState();
        x.askWay(99);
    }

    private static void changeTakesAnyTape() {
        due.by("The tape is leaf i from now on: true");
        Twin x = Twin.withLeaves(due, 3);
        int others = Twin.leafLength(0) + Twin.leafLength(2);
        for (int length : new int[] {150, 0, 149, 150, 1, 0, 0}) {
            x.putMany(length);
            due.is("change(1) to " + length + " bytes", x.change(1), true);
            due.is("bytes of all leaves then", x.count(3), others + length);
            x.askState();
            x.askWay(2);
        }
    }

    private static void changeEmptiesTheTape() {
        due.by("The tape (empty then) is leaf i from now on");
        Twin x = Twin.withLeaves(due, 2);
        x.putMany(150);
        x.change(0);
        due.is("count(0)", x.count(0), 0);
        due.is("leaves", x.count(1), 2);
        due.is("put(1, 8)", x.put(1, 8), true);
        due.is("the tape then", x.count(0), 8);
    }

    private static void changeOfTheFirstAndTheLast() {
        due.by("The tape is leaf i from now on: true (the first and the last)");
        for (int n : new int[] {1, 2, 3, 4, 5, 7, 8, 9, 63, 64, 65, 99, 100}) {
            for (int i : new int[] {0, n - 1}) {
                Twin x = Twin.withLeaves(due, n);
                x.put(-2, 7);
                due.is(n + " leaves: change(" + i + ")", x.change(i), true);
                x.put(-2, 7);
                due.is("it proves itself", x.proves(i), 1);
                x.askState();
                x.askWay(0);
                x.askWay(n / 2);
                x.askWay(n - 1);
            }
        }
    }

    private static void changeToTheSame() {
        due.by("The tape is leaf i from now on: true (though it was before)");
        Twin x = Twin.withLeaves(due, 6);
        long root = x.root(0);
        x.putLeaf(4);
        due.is("change(4)", x.change(4), true);
        due.is("root(0)", x.root(0), root);
        due.is("the tape", x.count(0), 0);
        x.askState();
    }

    private static void changeOfNoSuchLeaf() {
        due.by("false if there is no such leaf");
        for (int n : new int[] {1, 2, 5, 64, 99, 100}) {
            Twin x = Twin.withLeaves(due, n);
            x.put(3, 3);
            changeIsRefused(x, n);
            changeIsRefused(x, n + 1);
            changeIsRefused(x, -n);
            for (int i : Odd.LEAVES) {
                changeIsRefused(x, i);
            }
            x.askState();
            x.askWay(n - 1);
        }
    }

    private static void changeIsRefused(Twin x, int i) {
        due.is("change(" + i + ")", x.change(i), false);
        due.is("the tape stays", x.count(0), 3);
    }

    private static void changeWithoutLeaves() {
        due.by("false if there is no such leaf (for there is none)");
        Twin x = Twin.withTape(due, 150);
        due.is("change(0)", x.change(0), false);
        due.is("change(-1)", x.change(-1), false);
        x.askCounts(150, 0, 0, 0);
        due.is("add() then", x.add(), 0);
        due.is("bytes of the leaf", x.count(3), 150);
    }

    private static void changeOfTheLeafThatWent() {
        due.by("false if there is no such leaf (any more)");
        Twin x = Twin.withLeaves(due, 3);
        x.drop();
        x.put(9, 2);
        due.is("change(2)", x.change(2), false);
        due.is("change(1)", x.change(1), true);
        x.drop();
        x.drop();
        due.is("change(0)", x.change(0), false);
        x.askState();
    }

    private static void dropTakesTheLast() {
        due.by("The last leaf goes: how many there are then");
        Twin x = Twin.withLeaves(due, 100);
        x.put(1, 2);
        int bytes = x.count(3) - Twin.leafLength(99);
        due.is("drop()", x.drop(), 99);
        x.askCounts(2, 99, 8, bytes);
        due.is("way(99)", x.way(99), -1);
        due.is("way(98)", x.way(98), 3);
        x.askState();
        x.askWay(98);
    }

    private static void dropOverTheEdgeOfALevel() {
        due.by("The last leaf goes (and with it a level)");
        int[] sizes = {2, 3, 5, 9, 17, 33, 65};
        for (int step = 0; step < sizes.length; step++) {
            Twin x = Twin.withLeaves(due, sizes[step]);
            due.is("levels of " + sizes[step], x.count(2), step + 2);
            due.is("drop()", x.drop(), sizes[step] - 1);
            due.is("levels of " + (sizes[step] - 1), x.count(2), step + 1);
            x.askState();
            x.askWay(0);
            x.askWay(sizes[step] - 2);
            x.put(77, 1);
            due.is("add() again", x.add(), sizes[step] - 1);
            x.askState();
            x.askWay(0);
            x.askWay(sizes[step] - 1);
        }
    }

    private static void dropOfTheOnlyOne() {
        due.by("The last leaf goes: how many there are then (none)");
        Twin x = Twin.withLeaves(due, 1);
        x.put(4, 4);
        due.is("drop()", x.drop(), 0);
        x.askCounts(4, 0, 0, 0);
        x.askState();
        x.askWay(0);
    }

    private static void dropOfNone() {
        due.by("-1, refused, if there is none");
        Twin x = new Twin(due, "no leaves");
        due.is("drop() of a new object", x.drop(), -1);
        x.putMany(150);
        due.is("drop() with a tape", x.drop(), -1);
        x.askCounts(150, 0, 0, 0);
        x.add();
        due.is("drop() of the one", x.drop(), 0);
        due.is("drop() then", x.drop(), -1);
        due.is("drop() again", x.drop(), -1);
        x.askCounts(0, 0, 0, 0);
        due.is("add() then", x.add(), 0);
        x.askCounts(0, 1, 1, 0);
    }

    private static void droppedLeafDoesNotComeBack() {
        due.by("The last leaf goes (and is not there again when another one comes)");
        Twin x = Twin.withLeaves(due, 4);
        x.drop();
        x.drop();
        x.put(200, 1);
        due.is("add()", x.add(), 2);
        x.askState();
        x.askWay(0);
        x.askWay(2);
        x.askWay(3);
        x.add();
        x.askState();
        x.askWay(3);
    }
}
