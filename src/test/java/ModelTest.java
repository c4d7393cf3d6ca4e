import java.util.Random;
import java.util.concurrent.Callable;

/** Runs of drawn calls, each answered by the class and by the model; then some bytes of each block are compared. */
public final class ModelTest {
    private static final int RUNS = 2000;
    // With the four of the last drawn call and the look at each block, 512 calls at most.
    private static final int DRAWN = 412;
    private static final int[] WILD = {
        Integer.MIN_VALUE, -65, -1, 0, 1, 7, 8, 9, 23, 24, 25, 26, 63, 64, 65, 94, 95, 96, 255, 256,
        0x4000000, Integer.MAX_VALUE};

    private final Due due;
    private final Random random;
    private final String name;
    private final BlockJournal real = new BlockJournal();
    private final Model model = new Model();
    // A narrow range of blocks brings changes of the same block, a wide one brings full journals.
    private final int blocks;
    private int calls;

    private ModelTest(Due due, int seed) {
        this.due = due;
        this.random = new Random(seed);
        this.name = "run " + seed + ", call ";
        this.blocks = seed % 3 == 0 ? 71 : seed % 3 == 1 ? 26 : 4;
    }

    public static void main(String[] args) {
        Due due = new Due();
        due.about("All promises, in drawn runs");
        for (int seed = 0; seed < RUNS; seed++) {
            new ModelTest(due, seed).run();
        }
        due.end();
    }

    private void run() {
        while (calls < DRAWN) {
            draw(name + calls + " ");
        }
        // A byte of each block in each run, another one in the next: over the runs it is all of them.
        for (int block = 0; block < 96; block++) {
            int at = block;
            int k = random.nextInt(64);
            both(name + "at the end, " + at + " " + k, () -> real.at(at, k), () -> model.at(at, k));
        }
    }

    private void draw(String call) {
        int kind = random.nextInt(100);
        if (kind < 24) {
            int n = number(1, 8);
            long v = random.nextLong();
            both(call + "feed " + n, () -> real.feed(n, v), () -> model.feed(n, v));
        } else if (kind < 56) {
            int block = number(25, blocks);
            both(call + "put " + block, () -> real.put(block), () -> model.put(block));
        } else if (kind < 57) {
            both(call + "drop", real::drop, model::drop);
        } else if (kind < 61) {
            both(call + "commit", real::commit, model::commit);
        } else if (kind < 65) {
            both(call + "recover", real::recover, model::recover);
        } else if (kind < 69) {
            int n = number(1, random.nextBoolean() ? 8 : 60);
            both(call + "lose " + n, () -> lost(() -> real.lose(n)), () -> lost(() -> model.lose(n)));
        } else if (kind < 73) {
            both(call + "power", real::power, model::power);
        } else if (kind < 78) {
            spoil(call);
        } else if (kind < 84) {
            int block = number(0, 96);
            int k = number(0, 64);
            both(call + "at " + block + " " + k, () -> real.at(block, k), () -> model.at(block, k));
        } else if (kind < 89) {
            int i = number(0, 24);
            both(call + "change " + i, () -> real.change(i), () -> model.change(i));
        } else {
            int what = number(0, 7);
            both(call + "look " + what, () -> real.look(what), () -> model.look(what));
        }
    }

    /** Most often what was spoiled is put back, or heads would hardly ever stay right. */
    private void spoil(String call) {
        int block = random.nextInt(3) == 0 ? 0 : number(0, 96);
        int k = number(0, 64);
        Object was = Due.outcome(() -> model.at(block, k));
        spoil(call, block, k, random.nextInt());
        if (was instanceof Long old && random.nextInt(4) != 0) {
            spoil(call, block, k, old.intValue());
        }
    }

    private void spoil(String call, int block, int k, int v) {
        both(call + "spoil " + block + " " + k, () -> real.spoil(block, k, v), () -> model.spoil(block, k, v));
        both(call + "look 2", () -> real.look(2), () -> model.look(2));
    }

    private int number(int first, int many) {
        return random.nextInt(40) == 0 ? WILD[random.nextInt(WILD.length)] : first + random.nextInt(many);
    }

    private static int lost(Runnable call) {
        call.run();
        return 0;
    }

    private void both(String call, Callable<?> ofReal, Callable<?> ofModel) {
        calls++;
        due.compare(call, Due.outcome(ofModel), Due.outcome(ofReal));
    }
}
