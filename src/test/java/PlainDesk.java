import java.nio.ByteBuffer;
import java.util.ArrayList;
import java.util.Arrays;
import java.util.List;

/** The document's words in their slowest form: what RootDesk is compared with. */
final class PlainDesk {
    private byte[] tape = new byte[0];
    private final List<byte[]> leaves = new ArrayList<>();

    private record Step(byte[] id, boolean left) { }

    boolean put(long v, int n) {
        if (n < 1 || n > 8 || tape.length + n > 150) {
            return false;
        }
        byte[] eight = ByteBuffer.allocate(8).putLong(v).array();
        tape = Sha.together(tape, Arrays.copyOfRange(eight, 8 - n, 8));
        return true;
    }

    long hash(int k) {
        return part(Sha.of(tape), k);
    }

    int add() {
        if (leaves.size() == 100) {
            return -1;
        }
        leaves.add(tape);
        tape = new byte[0];
        return leaves.size() - 1;
    }

    boolean change(int i) {
        if (!has(i)) {
            return false;
        }
        leaves.set(i, tape);
        tape = new byte[0];
        return true;
    }

    int drop() {
        if (leaves.isEmpty()) {
            return -1;
        }
        leaves.remove(leaves.size() - 1);
        return leaves.size();
    }

    long root(int k) {
        return part(rootId(), k);
    }

    int way(int i) {
        return has(i) ? steps(i).size() : -1;
    }

    long beside(int i, int j, int k) {
        return hasStep(i, j) ? part(steps(i).get(j).id(), k) : 0;
    }

    int isLeft(int i, int j) {
        if (!hasStep(i, j)) {
            return -1;
        }
        return steps(i).get(j).left() ? 1 : 0;
    }

    int proves(int i) {
        if (!has(i)) {
            return -1;
        }
        byte[] id = Sha.leafId(tape);
        for (Step step : steps(i)) {
            id = step.left() ? Sha.pairId(step.id(), id) : Sha.pairId(id, step.id());
        }
        return Arrays.equals(id, rootId()) ? 1 : 0;
    }

    int count(int what) {
        return switch (what) {
            case 0 -> tape.length;
            case 1 -> leaves.size();
            case 2 -> leaves.isEmpty() ? 0 : levels().size();
            case 3 -> leaves.stream().mapToInt(leaf -> leaf.length).sum();
            default -> -1;
        };
    }

    private boolean has(int i) {
        return i >= 0 && i < leaves.size();
    }

    private boolean hasStep(int i, int j) {
        return has(i) && j >= 0 && j < steps(i).size();
    }

    private List<List<byte[]>> levels() {
        List<List<byte[]>> levels = new ArrayList<>();
        List<byte[]> level = new ArrayList<>();
        for (byte[] leaf : leaves) {
            level.add(Sha.leafId(leaf));
        }
        levels.add(level);
        while (level.size() > 1) {
            List<byte[]> next = new ArrayList<>();
            for (int a = 0; a < level.size(); a += 2) {
                next.add(a + 1 < level.size() ? Sha.pairId(level.get(a), level.get(a + 1)) : level.get(a));
            }
            levels.add(next);
            level = next;
        }
        return levels;
    }

    private byte[] rootId() {
        if (leaves.isEmpty()) {
            return new byte[32];
        }
        List<List<byte[]>> levels = levels();
        return levels.get(levels.size() - 1).get(0);
    }

    private List<Step> steps(int i) {
        List<Step> steps = new ArrayList<>();
        int at = i;
        for (List<byte[]> level : levels()) {
            if (at % 2 == 1) {
                steps.add(new Step(level.get(at - 1), true));
            } else if (at + 1 < level.size()) {
                steps.add(new Step(level.get(at + 1), false));
            }
            at /= 2;
        }
        return steps;
    }

    private static long part(byte[] id, int k) {
        return k < 0 || k > 3 ? 0 : Sha.part(id, k);
    }
}
