import java.util.ArrayList;
import java.util.List;
import java.util.NoSuchElementException;
import java.util.SortedMap;
import java.util.TreeMap;
import java.util.zip.CRC32C;

/** The document told a second time, with the library's own maps, lists and check. */
final class Model {
    private record Write(int block, byte[] bytes) {
    }

    private final byte[][] store = new byte[96][64];
    private final SortedMap<Integer, byte[]> changes = new TreeMap<>();
    private final List<Byte> tape = new ArrayList<>();
    private boolean off;
    private Integer lossAt;
    private int done;

    int feed(int n, long v) {
        argument(n >= 1 && n <= 8);
        state(tape.size() + n <= 64);
        for (int i = 0; i < n; i++) {
            tape.add((byte) (v >> 8 * i));
        }
        return tape.size();
    }

    int put(int block) {
        argument(block >= 25 && block <= 95);
        state(changes.containsKey(block) || changes.size() < 24);
        byte[] bytes = new byte[64];
        for (int i = 0; i < tape.size(); i++) {
            bytes[i] = tape.get(i);
        }
        tape.clear();
        changes.put(block, bytes);
        return changes.size();
    }

    int drop() {
        int size = changes.size();
        changes.clear();
        return size;
    }

    boolean commit() {
        state(!changes.isEmpty() && !off);
        List<Write> plan = new ArrayList<>();
        byte[] head = new byte[64];
        CRC32C check = new CRC32C();
        number(head, 0, 4, sequence());
        head[4] = (byte) changes.size();
        int i = 0;
        for (int block : changes.keySet()) {
            plan.add(new Write(1 + i, changes.get(block)));
            check.update(changes.get(block));
            number(head, 5 + 2 * i, 2, block);
            i++;
        }
        number(head, 59, 4, check.getValue());
        plan.add(new Write(0, head));
        changes.forEach((block, bytes) -> plan.add(new Write(block, bytes)));
        plan.add(emptyHead());
        changes.clear();
        return carryOut(plan);
    }

    int recover() {
        state(!off);
        if (!right()) {
            return 0;
        }
        int count = store[0][4];
        List<Write> plan = new ArrayList<>();
        for (int i = 0; i < count; i++) {
            plan.add(new Write((int) number(5 + 2 * i, 2), store[1 + i]));
        }
        plan.add(emptyHead());
        return carryOut(plan) ? count : -1;
    }

    void lose(int n) {
        argument(n >= 1);
        state(!off);
        lossAt = n;
    }

    boolean power() {
        boolean was = off;
        off = false;
        lossAt = null;
        return was;
    }

    int spoil(int block, int k, int v) {
        int was = at(block, k);
        store[block][k] = (byte) v;
        return was;
    }

    int at(int block, int k) {
        argument(block >= 0 && block < 96 && k >= 0 && k < 64);
        return Byte.toUnsignedInt(store[block][k]);
    }

    int change(int i) {
        if (i < 0 || i >= changes.size()) {
            throw new NoSuchElementException();
        }
        return new ArrayList<>(changes.keySet()).get(i);
    }

    long look(int what) {
        return switch (what) {
            case 0 -> sequence();
            case 1 -> number(4, 1);
            case 2 -> right() ? 1 : 0;
            case 3 -> changes.size();
            case 4 -> done;
            case 5 -> off ? 1 : 0;
            case 6 -> off ? 0 : lossAt == null ? -1 : lossAt - 1;
            default -> throw new NoSuchElementException();
        };
    }

    private boolean carryOut(List<Write> plan) {
        for (Write write : plan) {
            if (lossAt != null && lossAt == 1) {
                off = true;
                return false;
            }
            lossAt = lossAt == null ? null : lossAt - 1;
            store[write.block] = write.bytes.clone();
            done++;
        }
        return true;
    }

    private Write emptyHead() {
        byte[] head = new byte[64];
        number(head, 0, 4, sequence() + 1);
        return new Write(0, head);
    }

    private boolean right() {
        long count = number(4, 1);
        if (count < 1 || count > 24) {
            return false;
        }
        CRC32C check = new CRC32C();
        long above = 24;
        for (int i = 0; i < count; i++) {
            long target = number(5 + 2 * i, 2);
            if (target <= above || target > 95) {
                return false;
            }
            above = target;
            check.update(store[1 + i]);
        }
        return number(59, 4) == check.getValue();
    }

    private long sequence() {
        return number(0, 4);
    }

    private long number(int place, int bytes) {
        long value = 0;
        for (int i = bytes - 1; i >= 0; i--) {
            value = value * 256 + Byte.toUnsignedInt(store[0][place + i]);
        }
        return value;
    }

    private static void number(byte[] head, int place, int bytes, long value) {
        for (int i = 0; i < bytes; i++) {
            head[place + i] = (byte) (value >> 8 * i);
        }
    }

    private static void argument(boolean good) {
        if (!good) {
            throw new IllegalArgumentException();
        }
    }

    private static void state(boolean good) {
        if (!good) {
            throw new IllegalStateException();
        }
    }
}
