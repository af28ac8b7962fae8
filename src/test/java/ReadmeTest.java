/** The example of README.md, line by line: its comments say what is due. */
public final class ReadmeTest {
    public static void main(String[] args) {
        Due due = new Due();
        RootDesk desk = new RootDesk();
        due.is("put(0x616263, 3)", desk.put(0x616263, 3), true);
        due.is("hash(0)", desk.hash(0), Sha.part(Sha.of(new byte[] {'a', 'b', 'c'}), 0));
        int a = desk.add();
        due.is("the first add()", a, 0);
        due.is("put('b', 1)", desk.put('b', 1), true);
        int b = desk.add();
        due.is("the second add()", b, 1);
        byte[] first = Sha.leafId(new byte[] {'a', 'b', 'c'});
        byte[] second = Sha.leafId(new byte[] {'b'});
        due.is("root(0)", desk.root(0), Sha.part(Sha.pairId(first, second), 0));
        due.is("way(a)", desk.way(a), 1);
        due.is("beside(a, 0, 0)", desk.beside(a, 0, 0), Sha.part(second, 0));
        due.is("isLeft(a, 0)", desk.isLeft(a, 0), 0);
        due.is("put('b', 1) again", desk.put('b', 1), true);
        due.is("proves(b)", desk.proves(b), 1);
        due.is("change(a)", desk.change(a), true);
        due.is("drop()", desk.drop(), 1);
        due.is("count(1)", desk.count(1), 1);
        due.end();
    }
}
