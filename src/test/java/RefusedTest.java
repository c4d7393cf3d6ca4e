import java.util.ArrayList;
import java.util.List;
import java.util.NoSuchElementException;
import java.util.function.Supplier;

/** Calls that throw: which exception it is, and that nothing is changed by them. */
public final class RefusedTest {
    private static final Due DUE = new Due();
    private static final Class<IllegalArgumentException> ARGUMENT = IllegalArgumentException.class;
    private static final Class<IllegalStateException> STATE = IllegalStateException.class;
    private static final Class<NoSuchElementException> ELEMENT = NoSuchElementException.class;

    private interface Call {
        void on(BlockJournal journal);
    }

    private record Refused(String name, Class<? extends RuntimeException> thrown, Call call) {
    }

    public static void main(String[] args) {
        listedFirst();
        nothingChanges("a new object", BlockJournal::new, inAnyState(0), fresh());
        nothingChanges("a full tape and 24 changes", RefusedTest::full, inAnyState(24), whenFull());
        nothingChanges("the power off", RefusedTest::off, inAnyState(1), whenOff());
        DUE.end();
    }

    private static Object lose(BlockJournal x, int n) {
        x.lose(n);
        return 0;
    }

    private static void listedFirst() {
        DUE.about("Of several exceptions that hold the one listed first is thrown");
        BlockJournal full = full();
        for (int n : new int[] {0, 9, -1, Integer.MIN_VALUE, Integer.MAX_VALUE}) {
            DUE.fails("feed(" + n + ") on a full tape", ARGUMENT, () -> full.feed(n, 1));
        }
        for (int block : new int[] {24, 96, 0, -1, Integer.MIN_VALUE, Integer.MAX_VALUE}) {
            DUE.fails("put(" + block + ") on 24 changes", ARGUMENT, () -> full.put(block));
        }
        BlockJournal off = off();
        for (int n : new int[] {0, -1, Integer.MIN_VALUE}) {
            DUE.fails("lose(" + n + ") with the power off", ARGUMENT, () -> lose(off, n));
        }
    }

    /** A tape of 64 bytes, 24 changes up to block 95, and a loss that was said. */
    private static BlockJournal full() {
        BlockJournal x = new BlockJournal();
        for (int i = 0; i < 24; i++) {
            x.feed(8, 0x0102030405060708L * (i + 1));
            x.put(i == 23 ? 95 : 26 + 2 * i);
        }
        for (int i = 0; i < 8; i++) {
            x.feed(8, 0xF1E2D3C4B5A69788L + i);
        }
        x.lose(20);
        return x;
    }

    /** Lost behind a right head; with a change, and a tape that 8 bytes more would make too long. */
    private static BlockJournal off() {
        BlockJournal x = Journals.withChanges(30, 60, 90);
        x.lose(6);
        x.commit();
        x.feed(3, 0x332211);
        x.put(44);
        Journals.feedBytes(x, 57, 1);
        return x;
    }

    private static List<Refused> inAnyState(int changes) {
        List<Refused> calls = new ArrayList<>();
        for (int n : new int[] {0, 9, -1, Integer.MIN_VALUE, Integer.MAX_VALUE}) {
            calls.add(new Refused("feed(" + n + ")", ARGUMENT, x -> x.feed(n, -1)));
        }
        for (int block : new int[] {24, 96, 0, -1}) {
            calls.add(new Refused("put(" + block + ")", ARGUMENT, x -> x.put(block)));
        }
        for (int n : new int[] {0, -1, Integer.MIN_VALUE}) {
            calls.add(new Refused("lose(" + n + ")", ARGUMENT, x -> x.lose(n)));
        }
        for (int[] at : new int[][] {{-1, 63}, {96, 0}, {0, 64}, {0, -1}, {30, 64}, {30, -1}}) {
            String place = at[0] + ", " + at[1];
            calls.add(new Refused("spoil(" + place + ", 9)", ARGUMENT, x -> x.spoil(at[0], at[1], 9)));
            calls.add(new Refused("at(" + place + ")", ARGUMENT, x -> x.at(at[0], at[1])));
        }
        for (int i : new int[] {-1, changes, 24}) {
            calls.add(new Refused("change(" + i + ")", ELEMENT, x -> x.change(i)));
        }
        for (int what : new int[] {-1, 7}) {
            calls.add(new Refused("look(" + what + ")", ELEMENT, x -> x.look(what)));
        }
        return calls;
    }

    private static List<Refused> fresh() {
        return List.of(new Refused("commit()", STATE, BlockJournal::commit));
    }

    private static List<Refused> whenFull() {
        return List.of(
                new Refused("feed(1)", STATE, x -> x.feed(1, -1)),
                new Refused("feed(8)", STATE, x -> x.feed(8, -1)),
                new Refused("put(25)", STATE, x -> x.put(25)),
                new Refused("put(51)", STATE, x -> x.put(51)),
                new Refused("put(94)", STATE, x -> x.put(94)));
    }

    private static List<Refused> whenOff() {
        return List.of(
                new Refused("feed(8)", STATE, x -> x.feed(8, -1)),
                new Refused("commit()", STATE, BlockJournal::commit),
                new Refused("recover()", STATE, BlockJournal::recover),
                new Refused("lose(1)", STATE, x -> x.lose(1)),
                new Refused("lose(9)", STATE, x -> x.lose(9)));
    }

    private static void nothingChanges(
            String name, Supplier<BlockJournal> made, List<Refused> calls, List<Refused> more) {
        DUE.about("a call that throws changes nothing: with " + name);
        List<Refused> all = new ArrayList<>(calls);
        all.addAll(more);
        for (int block = 0; block < 96; block++) {
            String want = trace(made.get(), block);
            for (Refused refused : all) {
                BlockJournal x = made.get();
                DUE.fails(refused.name, refused.thrown, () -> {
                    refused.call.on(x);
                    return 0;
                });
                DUE.compare("what follows " + refused.name + ", with block " + block, want, trace(x, block));
            }
        }
    }

    /** What can be seen of an object, of its store one block; then so too when tape and changes went into it. */
    private static String trace(BlockJournal x, int block) {
        StringBuilder seen = new StringBuilder();
        see(seen, x, block);
        seen.append(Due.outcome(() -> x.feed(7, 0x7777777777777777L))).append(' ');
        seen.append(Due.outcome(() -> x.put(95))).append(' ');
        seen.append(x.power()).append(' ');
        seen.append(Due.outcome(x::recover)).append(' ');
        seen.append(Due.outcome(x::commit)).append(' ');
        see(seen, x, block);
        return seen.toString();
    }

    private static void see(StringBuilder seen, BlockJournal x, int block) {
        for (int what = 0; what <= 6; what++) {
            seen.append(x.look(what)).append(' ');
        }
        for (int i = 0; i < 25; i++) {
            int change = i;
            seen.append(Due.outcome(() -> x.change(change))).append(' ');
        }
        for (int k = 0; k < 64; k++) {
            seen.append(x.at(block, k)).append(' ');
        }
        seen.append('\n');
    }
}
