import java.util.Random;

/** Rule 7 of LANGUAGE.md: no call throws, not even after the 512th, when the answers are free. */
public final class LongRunTest {
    private static final int CALLS = 20000;

    private final Random chance = new Random(7);
    private final RootDesk desk = new RootDesk();

    public static void main(String[] args) {
        Due due = new Due();
        LongRunTest test = new LongRunTest();
        int calls = 0;
        while (calls < CALLS) {
            test.oneCall();
            calls++;
        }
        due.is("calls that came back", calls, CALLS);
        due.end();
    }

    private void oneCall() {
        switch (chance.nextInt(14)) {
            case 0 -> desk.hash(any());
            case 1 -> desk.change(any());
            case 2 -> desk.drop();
            case 3 -> desk.root(any());
            case 4 -> desk.way(any());
            case 5 -> desk.beside(any(), any(), any());
            case 6 -> desk.isLeft(any(), any());
            case 7 -> desk.proves(any());
            case 8 -> desk.count(any());
            case 9, 10, 11 -> desk.put(chance.nextLong(), any());
            default -> desk.add();
        }
    }

    private int any() {
        int below = 1 << chance.nextInt(31);
        int number = chance.nextInt(below);
        return chance.nextInt(5) == 0 ? -number : number;
    }
}
